/-! KBASE: rows in the words of the memory; strings that are there; contracts and calls. -/
section KB
variable {p : Program} {l : Launch} {e : Env} {R : Room} {s : State} {m : MethodId} {args : Array Value} {below : List Frame} {meth : Method} {c : Code} {H : Heap} {locs : List Loc} {cells slots : Nat} {Q : State → Prop}
variable {cc : ByteArray} {pc : Nat} {ls : Array Slot} {rest st0 : List Value} {D : va_G} {A : Nat → Prop} {a : Nat} {ws wc wr : va_W} {H0 : Heap} {τ : Nat → ClassId} {own : String} {sA sV : Nat → Nat}
variable {y : MethodName} {b : ByteArray} {mL n lev mc ms index nL cells' slots' : Nat} {ret : Option FieldType} {As : List Value} {Wf : Mem → va_W} {Rf : Mem → Prop} {M0 : Mem}
theorem r_iaddW (hx : p.tables.exec = Jvm.exec) (hb : c.code = cc) {a b : Int} (hd : decode cc pc = .ok (.iadd, 1)) (k : ∀ z : Int, z = w32 (a + b) → iR z → W p l e R s m args below meth c H locs cells slots Q (F0 m (pc + 1) ls (.int (iI z) :: rest))) : W p l e R s m args below meth c H locs cells slots Q (F0 m pc ls (.int (iI b) :: .int (iI a) :: rest)) := r_iadd hx hb hd rfl (by
  have h := k _ rfl (w32_R _)
  rw [show iI (w32 (a + b)) = iI (a + b) from iI_toI _] at h
  exact h)
theorem r_isubW (hx : p.tables.exec = Jvm.exec) (hb : c.code = cc) {a b : Int} (hd : decode cc pc = .ok (.isub, 1)) (k : ∀ z : Int, z = w32 (a - b) → iR z → W p l e R s m args below meth c H locs cells slots Q (F0 m (pc + 1) ls (.int (iI z) :: rest))) : W p l e R s m args below meth c H locs cells slots Q (F0 m pc ls (.int (iI b) :: .int (iI a) :: rest)) := r_isub hx hb hd rfl (by
  have h := k _ rfl (w32_R _)
  rw [show iI (w32 (a - b)) = iI (a - b) from iI_toI _] at h
  exact h)
theorem r_imulW (hx : p.tables.exec = Jvm.exec) (hb : c.code = cc) {a b : Int} (hd : decode cc pc = .ok (.imul, 1)) (k : ∀ z : Int, z = w32 (a * b) → iR z → W p l e R s m args below meth c H locs cells slots Q (F0 m (pc + 1) ls (.int (iI z) :: rest))) : W p l e R s m args below meth c H locs cells slots Q (F0 m pc ls (.int (iI b) :: .int (iI a) :: rest)) := r_imul hx hb hd rfl (by
  have h := k _ rfl (w32_R _)
  rw [show iI (w32 (a * b)) = iI (a * b) from iI_toI _] at h
  exact h)
theorem r_laddW (hx : p.tables.exec = Jvm.exec) (hb : c.code = cc) {a b : Int} (hd : decode cc pc = .ok (.ladd, 1)) (k : ∀ z : Int, z = w64 (a + b) → lR z → W p l e R s m args below meth c H locs cells slots Q (F0 m (pc + 1) ls (.long (lI z) :: rest))) : W p l e R s m args below meth c H locs cells slots Q (F0 m pc ls (.long (lI b) :: .long (lI a) :: rest)) := r_ladd hx hb hd rfl (by
  have h := k _ rfl (w64_R _)
  rw [show lI (w64 (a + b)) = lI (a + b) from lI_toI _] at h
  exact h)
theorem r_lmulW (hx : p.tables.exec = Jvm.exec) (hb : c.code = cc) {a b : Int} (hd : decode cc pc = .ok (.lmul, 1)) (k : ∀ z : Int, z = w64 (a * b) → lR z → W p l e R s m args below meth c H locs cells slots Q (F0 m (pc + 1) ls (.long (lI z) :: rest))) : W p l e R s m args below meth c H locs cells slots Q (F0 m pc ls (.long (lI b) :: .long (lI a) :: rest)) := r_lmul hx hb hd rfl (by
  have h := k _ rfl (w64_R _)
  rw [show lI (w64 (a * b)) = lI (a * b) from lI_toI _] at h
  exact h)
theorem r_inegW (hx : p.tables.exec = Jvm.exec) (hb : c.code = cc) {a : Int} (hd : decode cc pc = .ok (.ineg, 1)) (k : ∀ z : Int, z = w32 (-a) → iR z → W p l e R s m args below meth c H locs cells slots Q (F0 m (pc + 1) ls (.int (iI z) :: rest))) : W p l e R s m args below meth c H locs cells slots Q (F0 m pc ls (.int (iI a) :: rest)) := r_ineg hx hb hd rfl (by
  have h := k _ rfl (w32_R _)
  rw [show iI (w32 (-a)) = iI (-a) from iI_toI _] at h
  exact h)
theorem r_iandF (hx : p.tables.exec = Jvm.exec) (hb : c.code = cc) {a b : Int} (hd : decode cc pc = .ok (.iand, 1)) (k : ∀ z : Int, z = aI a b → iR z → W p l e R s m args below meth c H locs cells slots Q (F0 m (pc + 1) ls (.int (iI z) :: rest))) : W p l e R s m args below meth c H locs cells slots Q (F0 m pc ls (.int (iI b) :: .int (iI a) :: rest)) := r_iand hx hb hd (fun z h1 h2 => k z (by unfold aI; rw [h2, iI_toInt h1]) h1)
theorem r_iorF (hx : p.tables.exec = Jvm.exec) (hb : c.code = cc) {a b : Int} (hd : decode cc pc = .ok (.ior, 1)) (k : ∀ z : Int, z = oI a b → iR z → W p l e R s m args below meth c H locs cells slots Q (F0 m (pc + 1) ls (.int (iI z) :: rest))) : W p l e R s m args below meth c H locs cells slots Q (F0 m pc ls (.int (iI b) :: .int (iI a) :: rest)) := r_ior hx hb hd (fun z h1 h2 => k z (by unfold oI; rw [h2, iI_toInt h1]) h1)
theorem r_ixorF (hx : p.tables.exec = Jvm.exec) (hb : c.code = cc) {a b : Int} (hd : decode cc pc = .ok (.ixor, 1)) (k : ∀ z : Int, z = xI a b → iR z → W p l e R s m args below meth c H locs cells slots Q (F0 m (pc + 1) ls (.int (iI z) :: rest))) : W p l e R s m args below meth c H locs cells slots Q (F0 m pc ls (.int (iI b) :: .int (iI a) :: rest)) := r_ixor hx hb hd (fun z h1 h2 => k z (by unfold xI; rw [h2, iI_toInt h1]) h1)
theorem r_ishlF (hx : p.tables.exec = Jvm.exec) (hb : c.code = cc) {a b : Int} (hd : decode cc pc = .ok (.ishl, 1)) (k : ∀ z : Int, z = slI a b → iR z → W p l e R s m args below meth c H locs cells slots Q (F0 m (pc + 1) ls (.int (iI z) :: rest))) : W p l e R s m args below meth c H locs cells slots Q (F0 m pc ls (.int (iI b) :: .int (iI a) :: rest)) := r_ishl hx hb hd (fun z h1 h2 => k z (by unfold slI; rw [h2, iI_toInt h1]) h1)
theorem r_ishrF (hx : p.tables.exec = Jvm.exec) (hb : c.code = cc) {a b : Int} (hd : decode cc pc = .ok (.ishr, 1)) (k : ∀ z : Int, z = srI a b → iR z → W p l e R s m args below meth c H locs cells slots Q (F0 m (pc + 1) ls (.int (iI z) :: rest))) : W p l e R s m args below meth c H locs cells slots Q (F0 m pc ls (.int (iI b) :: .int (iI a) :: rest)) := r_ishr hx hb hd (fun z h1 h2 => k z (by unfold srI; rw [h2, iI_toInt h1]) h1)
theorem r_iushrF (hx : p.tables.exec = Jvm.exec) (hb : c.code = cc) {a b : Int} (hd : decode cc pc = .ok (.iushr, 1)) (k : ∀ z : Int, z = usI a b → iR z → W p l e R s m args below meth c H locs cells slots Q (F0 m (pc + 1) ls (.int (iI z) :: rest))) : W p l e R s m args below meth c H locs cells slots Q (F0 m pc ls (.int (iI b) :: .int (iI a) :: rest)) := r_iushr hx hb hd (fun z h1 h2 => k z (by unfold usI; rw [h2, iI_toInt h1]) h1)
theorem r_idivF (hx : p.tables.exec = Jvm.exec) (hb : c.code = cc) {a b : Int} (hd : decode cc pc = .ok (.idiv, 1)) (hn : iR b) (hz : ¬ b = 0) (k : ∀ z : Int, z = dvI a b → iR z → W p l e R s m args below meth c H locs cells slots Q (F0 m (pc + 1) ls (.int (iI z) :: rest))) : W p l e R s m args below meth c H locs cells slots Q (F0 m pc ls (.int (iI b) :: .int (iI a) :: rest)) := r_idiv hx hb hd hn hz (fun z h1 h2 => k z (by unfold dvI; rw [h2, iI_toInt h1]) h1)
theorem r_iremF (hx : p.tables.exec = Jvm.exec) (hb : c.code = cc) {a b : Int} (hd : decode cc pc = .ok (.irem, 1)) (hn : iR b) (hz : ¬ b = 0) (k : ∀ z : Int, z = rmI a b → iR z → W p l e R s m args below meth c H locs cells slots Q (F0 m (pc + 1) ls (.int (iI z) :: rest))) : W p l e R s m args below meth c H locs cells slots Q (F0 m pc ls (.int (iI b) :: .int (iI a) :: rest)) := r_irem hx hb hd hn hz (fun z h1 h2 => k z (by unfold rmI; rw [h2, iI_toInt h1]) h1)
theorem r_ldivF (hx : p.tables.exec = Jvm.exec) (hb : c.code = cc) {a b : Int} (hd : decode cc pc = .ok (.ldiv, 1)) (hn : lR b) (hz : ¬ b = 0) (k : ∀ z : Int, z = dvL a b → lR z → W p l e R s m args below meth c H locs cells slots Q (F0 m (pc + 1) ls (.long (lI z) :: rest))) : W p l e R s m args below meth c H locs cells slots Q (F0 m pc ls (.long (lI b) :: .long (lI a) :: rest)) := r_ldiv hx hb hd hn hz (fun z h1 h2 => k z (by unfold dvL; rw [h2, lI_toInt h1]) h1)
theorem r_lremF (hx : p.tables.exec = Jvm.exec) (hb : c.code = cc) {a b : Int} (hd : decode cc pc = .ok (.lrem, 1)) (hn : lR b) (hz : ¬ b = 0) (k : ∀ z : Int, z = rmL a b → lR z → W p l e R s m args below meth c H locs cells slots Q (F0 m (pc + 1) ls (.long (lI z) :: rest))) : W p l e R s m args below meth c H locs cells slots Q (F0 m pc ls (.long (lI b) :: .long (lI a) :: rest)) := r_lrem hx hb hd hn hz (fun z h1 h2 => k z (by unfold rmL; rw [h2, lI_toInt h1]) h1)
theorem r_i2bF (hx : p.tables.exec = Jvm.exec) (hb : c.code = cc) {a : Int} (hd : decode cc pc = .ok (.i2b, 1)) (k : ∀ z : Int, z = b8I a → iR z → W p l e R s m args below meth c H locs cells slots Q (F0 m (pc + 1) ls (.int (iI z) :: rest))) : W p l e R s m args below meth c H locs cells slots Q (F0 m pc ls (.int (iI a) :: rest)) := r_i2b hx hb hd (fun z h1 h2 => k z (by unfold b8I; rw [h2, iI_toInt h1]) h1)
theorem r_i2sF (hx : p.tables.exec = Jvm.exec) (hb : c.code = cc) {a : Int} (hd : decode cc pc = .ok (.i2s, 1)) (k : ∀ z : Int, z = s16I a → iR z → W p l e R s m args below meth c H locs cells slots Q (F0 m (pc + 1) ls (.int (iI z) :: rest))) : W p l e R s m args below meth c H locs cells slots Q (F0 m pc ls (.int (iI a) :: rest)) := r_i2s hx hb hd (fun z h1 h2 => k z (by unfold s16I; rw [h2, iI_toInt h1]) h1)
theorem c16_id {a : Int} (h0 : 0 ≤ a) (h1 : a < 65536) : ((iI a).toUInt32 % 65536).toInt32 = iI a := by
  obtain ⟨n, rfl⟩ := Int.eq_ofNat_of_zero_le h0
  have hn : n < 65536 := by omega
  apply Int32.toBitVec_inj.mp
  simp only [iI, UInt32.toBitVec_toInt32, UInt32.toBitVec_mod, Int32.toBitVec_toUInt32]
  apply BitVec.eq_of_toNat_eq
  simp [Int32.toBitVec_ofInt]
  omega
theorem r_i2c (hx : p.tables.exec = Jvm.exec) (hb : c.code = cc) {a : Int} (hd : decode cc pc = .ok (.i2c, 1)) (h0 : 0 ≤ a) (h1 : a < 65536) (k : W p l e R s m args below meth c H locs cells slots Q (F0 m (pc + 1) ls (.int (iI a) :: rest))) : W p l e R s m args below meth c H locs cells slots Q (F0 m pc ls (.int (iI a) :: rest)) := lv_i2c hx hb hd (c16_id h0 h1) k
theorem r_lkI (hx : p.tables.exec = Jvm.exec) (hb : c.code = cc) {dflt : Int} {ps : Array (Int × Int)} {len : Nat} {z off : Int} {tgt : Nat} (hd : decode cc pc = .ok (.lookupswitch dflt ps, len)) (hz : iR z) (hp : (ps.toList.zip (ps.toList.drop 1)).all (fun (a, next) => a.1 < next.1) = true) (ho : Op.lookupswitch.offset ps.toList dflt z = off) (ht : (pc : Int) + off = (tgt : Int)) (k : W p l e R s m args below meth c H locs cells slots Q (F0 m tgt ls rest)) : W p l e R s m args below meth c H locs cells slots Q (F0 m pc ls (.int (iI z) :: rest)) := lv_lookup hx hb hd hp (by rw [iI_toInt hz]; exact ho) ht k
theorem r_mmaxF (hx : p.tables.exec = Jvm.exec) (hb : c.code = cc) (hml : c.maxLocals = nL) (hC : cx D τ s m args own) (hl : ls.size = nL) (h1 : Cond.methodLink own index Lib.Math.max.name ∈ lw_good) (h2 : Cond.static Lib.Math.max.name ∈ lw_good) (h3 : Cond.initialized "java/lang/Math" ∈ lw_good) (h4 : Cond.code Lib.Math.max.name Lib.Math.max.code 2 (some .int) ∈ lw_good) (hfr : 1 ≤ R.frames) (hlo : (rest.map fun v => v.category).sum + 13 ≤ R.locals) (hcs : cells ≤ R.cells) (hss : slots ≤ R.slots) {x y : Int} (hrx : iR x) (hry : iR y) (hd : decode cc pc = .ok (.invokestatic index, 3)) (k : ∀ z : Int, z = max x y → iR z → W p l e R s m args below meth c H locs cells slots Q (F0 m (pc + 3) ls (.int (iI z) :: rest))) : W p l e R s m args below meth c H locs cells slots Q (F0 m pc ls (.int (iI y) :: .int (iI x) :: rest)) := r_mmax hx hb hml hC hl h1 h2 h3 h4 hfr hlo hcs hss hrx hry hd (fun z hz => k z (by omega) (by omega))
theorem r_mminF (hx : p.tables.exec = Jvm.exec) (hb : c.code = cc) (hml : c.maxLocals = nL) (hC : cx D τ s m args own) (hl : ls.size = nL) (h1 : Cond.methodLink own index Lib.Math.min.name ∈ lw_good) (h2 : Cond.static Lib.Math.min.name ∈ lw_good) (h3 : Cond.initialized "java/lang/Math" ∈ lw_good) (h4 : Cond.code Lib.Math.min.name Lib.Math.min.code 2 (some .int) ∈ lw_good) (hfr : 1 ≤ R.frames) (hlo : (rest.map fun v => v.category).sum + 13 ≤ R.locals) (hcs : cells ≤ R.cells) (hss : slots ≤ R.slots) {x y : Int} (hrx : iR x) (hry : iR y) (hd : decode cc pc = .ok (.invokestatic index, 3)) (k : ∀ z : Int, z = min x y → iR z → W p l e R s m args below meth c H locs cells slots Q (F0 m (pc + 3) ls (.int (iI z) :: rest))) : W p l e R s m args below meth c H locs cells slots Q (F0 m pc ls (.int (iI y) :: .int (iI x) :: rest)) := r_mmin hx hb hml hC hl h1 h2 h3 h4 hfr hlo hcs hss hrx hry hd (fun z hz => k z (by omega) (by omega))
end KB
/-! strings that are there, in no world -/
def soS (i : Nat) : String := ([RX5, RX12, RX12, RJ1, RX12, RX12, RX12, RX12, RX12] : List String).getD i ""
def siS (i : Nat) : Nat := ([79, 180, 205, 151, 241, 246, 248, 250, 377] : List Nat).getD i 0
def stS (i : Nat) : String := (["pgcwtim", ".c", "abcdef", "", "pgcwtim", "<>=", "+-", "*/", "ntpbx"] : List String).getD i ""
def ST (A : Nat → Prop) (U : State) (H : Heap) (sa sv : Nat) (bs : List Int) : Prop := va_O RJ0 sa A U H ∧ va_OF RJ0 "coder" "B" (.int 0) sa A U H ∧ va_OF RJ0 "value" "[B" (.ref sv) sa A U H ∧ va_T .byte sv bs.length (fun j => .int (iI (bs.getD j 0))) A U H ∧ (∀ b ∈ bs, 0 ≤ b ∧ b < 128) ∧ bs.length ≤ 100
theorem ST.moved {A : Nat → Prop} {u U : State} {H : Heap} {sa sv : Nat} {bs : List Int} (hvm : u.vm.Alike U.vm) (h : ST A u H sa sv bs) : ST A U H sa sv bs := ⟨h.1.moved hvm, h.2.1.moved hvm, h.2.2.1.moved hvm, h.2.2.2.1.moved hvm, h.2.2.2.2⟩
theorem ST.kept {A : Nat → Prop} {U : State} {H H1 : Heap} {sa sv : Nat} {bs : List Int} (h : ST A U H sa sv bs) (hq : ∀ a : Nat, a < H.size → ¬ A a → H1[a]? = H[a]?) : ST A U H1 sa sv bs := ⟨h.1.kept hq, h.2.1.kept hq, h.2.2.1.kept hq, h.2.2.2.1.kept hq, h.2.2.2.2⟩
theorem ST.narrow {A B : Nat → Prop} {U : State} {H : Heap} {sa sv : Nat} {bs : List Int} (h : ST A U H sa sv bs) (hAB : ∀ q, B q → A q) : ST B U H sa sv bs := ⟨h.1.narrow hAB, h.2.1.narrow hAB, h.2.2.1.narrow hAB, h.2.2.2.1.narrow hAB, h.2.2.2.2⟩
theorem ST.recv {A : Nat → Prop} {s : State} {H : Heap} {locs : List Loc} {sa sv : Nat} {bs : List Int} (h : ST A s s.heap sa sv bs) (hS : va_S A s.heap H locs) : ∃ cell : Cell, H[sa]? = some cell ∧ cell.vm.isStatics = false ∧ s.vm.findClass RJ0 = some cell.cls := by
  obtain ⟨cell, h1, h2, h3, -⟩ := h.1.kept hS.2.1
  exact ⟨cell, h1, h2, h3⟩
def LK (A : Nat → Prop) (U : State) (H : Heap) (sA sV : Nat → Nat) : Prop := (∀ i, i < 9 → vk_R (soS i) (siS i) (stS i) (sA i) U ∧ ST A U H (sA i) (sV i) (bS i)) ∧ va_Z RJ0 "COMPACT_STRINGS" "Z" (.int 1) A U H ∧ va_Zq RJ3 "SIOOBE_FORMATTER" "Ljava/util/function/BiFunction;" A U H
theorem LK.warm {A : Nat → Prop} {s U : State} {H : Heap} {sA sV : Nat → Nat} (hW : s.WarmedH U.vm) (h : LK A s H sA sV) : LK A U H sA sV := ⟨fun i hi => ⟨vk_R.warm hW (h.1 i hi).1, (h.1 i hi).2.moved hW.alike⟩, h.2.1.moved hW.alike, h.2.2.moved hW.alike⟩
theorem LK.same {A : Nat → Prop} {u U : State} {H : Heap} {sA sV : Nat → Nat} (hv : U.vm = u.vm) (h : LK A u H sA sV) : LK A U H sA sV :=
  have hq : u.vm.Alike U.vm := by rw [hv]; exact Vm.Alike.refl _
  ⟨fun i hi => ⟨vk_R.same hv (h.1 i hi).1, (h.1 i hi).2.moved hq⟩, h.2.1.moved hq, h.2.2.moved hq⟩
theorem LK.kept {A : Nat → Prop} {U : State} {H H1 : Heap} {sA sV : Nat → Nat} (h : LK A U H sA sV) (hq : ∀ a : Nat, a < H.size → ¬ A a → H1[a]? = H[a]?) : LK A U H1 sA sV := ⟨fun i hi => ⟨(h.1 i hi).1, (h.1 i hi).2.kept hq⟩, h.2.1.kept hq, h.2.2.kept hq⟩
theorem LK.narrow {A B : Nat → Prop} {U : State} {H : Heap} {sA sV : Nat → Nat} (h : LK A U H sA sV) (hAB : ∀ q, B q → A q) : LK B U H sA sV := ⟨fun i hi => ⟨(h.1 i hi).1, (h.1 i hi).2.narrow hAB⟩, h.2.1.narrow hAB, h.2.2.narrow hAB⟩
theorem LK.str_0 {A : Nat → Prop} {U : State} {H : Heap} {sA sV : Nat → Nat} (h : LK A U H sA sV) : vk_R RX5 79 "pgcwtim" (sA 0) U := (h.1 0 (by decide)).1
theorem LK.str_1 {A : Nat → Prop} {U : State} {H : Heap} {sA sV : Nat → Nat} (h : LK A U H sA sV) : vk_R RX12 180 ".c" (sA 1) U := (h.1 1 (by decide)).1
theorem LK.str_2 {A : Nat → Prop} {U : State} {H : Heap} {sA sV : Nat → Nat} (h : LK A U H sA sV) : vk_R RX12 205 "abcdef" (sA 2) U := (h.1 2 (by decide)).1
theorem LK.str_4 {A : Nat → Prop} {U : State} {H : Heap} {sA sV : Nat → Nat} (h : LK A U H sA sV) : vk_R RX12 241 "pgcwtim" (sA 4) U := (h.1 4 (by decide)).1
theorem LK.str_5 {A : Nat → Prop} {U : State} {H : Heap} {sA sV : Nat → Nat} (h : LK A U H sA sV) : vk_R RX12 246 "<>=" (sA 5) U := (h.1 5 (by decide)).1
theorem LK.str_6 {A : Nat → Prop} {U : State} {H : Heap} {sA sV : Nat → Nat} (h : LK A U H sA sV) : vk_R RX12 248 "+-" (sA 6) U := (h.1 6 (by decide)).1
theorem LK.str_7 {A : Nat → Prop} {U : State} {H : Heap} {sA sV : Nat → Nat} (h : LK A U H sA sV) : vk_R RX12 250 "*/" (sA 7) U := (h.1 7 (by decide)).1
theorem LK.str_8 {A : Nat → Prop} {U : State} {H : Heap} {sA sV : Nat → Nat} (h : LK A U H sA sV) : vk_R RX12 377 "ntpbx" (sA 8) U := (h.1 8 (by decide)).1
def kPre (D : va_G) (τ : Nat → ClassId) (sA sV : Nat → Nat) (wc : va_W) (sz : Nat) : State → Prop := fun U => gPre D τ wc sz U ∧ LK (va_A wc sz) U U.heap sA sV
abbrev kPc (D : va_G) (τ : Nat → ClassId) (sA sV : Nat → Nat) (wc : va_W) (sz : Nat) (As : List Value) : Array Value → State → Prop := va_Pc As (kPre D τ sA sV wc sz)
theorem kPc_blind {D : va_G} {τ : Nat → ClassId} {wc : va_W} {sz : Nat} {sA sV : Nat → Nat} {As : List Value} : FrameBlind (kPc D τ sA sV wc sz As) := fun a U g mk q => by
  obtain ⟨q0, q1, q2⟩ := q
  exact ⟨q0, (gPc_blind (As := As) a U g mk ⟨q0, q1⟩).2, LK.same (u := U) (U := U.calling g mk a) rfl q2⟩
def tPre (D : va_G) (τ : Nat → ClassId) (sA sV : Nat → Nat) (wc : va_W) (sz sa sv : Nat) (bs : List Int) : State → Prop := fun U => kPre D τ sA sV wc sz U ∧ ST (va_A wc sz) U U.heap sa sv bs
abbrev tPc (D : va_G) (τ : Nat → ClassId) (sA sV : Nat → Nat) (wc : va_W) (sz sa sv : Nat) (bs : List Int) (As : List Value) : Array Value → State → Prop := va_Pc As (tPre D τ sA sV wc sz sa sv bs)
theorem tPc_blind {D : va_G} {τ : Nat → ClassId} {wc : va_W} {sz sa sv : Nat} {bs : List Int} {sA sV : Nat → Nat} {As : List Value} : FrameBlind (tPc D τ sA sV wc sz sa sv bs As) := fun a U g mk q => by
  obtain ⟨q0, q1, q2⟩ := q
  exact ⟨q0, (kPc_blind (As := As) a U g mk ⟨q0, q1⟩).2, ST.moved (u := U) (U := U.calling g mk a) (Vm.Alike.refl U.vm) q2⟩
theorem k_met {l : Launch} {y : MethodName} {b : ByteArray} {mL k mc ms sz : Nat} {ret : Option FieldType} {D : va_G} {τ : Nat → ClassId} {sA sV : Nat → Nat} {wc : va_W} {As : List Value} {Qc : (Nat → Prop) → Array Value → State → Outcome → State → Prop} (hpl : plainName y.cls = true) (hn : (lg_sl As).length ≤ mL)
    (body : ∀ (p : Program) (e : Env) (s : State) (m : MethodId) (args : Array Value) (below : List Frame) (meth : Method) (c : Code) (A : Nat → Prop) (ls : Array Slot), p.tables.exec = Jvm.exec → c.code = b → c.maxLocals = mL → meth.sig.returnType = ret → meth.locks = false → meth.name = y.name → cx D τ s m args y.cls → LK A s s.heap sA sV → (∀ q : Nat, s.heap.size ≤ q → A q) → wS D A s.heap wc s.heap [] → lv_has ls mL (lv_args 0 As) →
      W p l e (rmk k mc ms) s m args below meth c s.heap [] 0 0 (MQ below (Qc A) args s mc ms A) (F0 m 0 ls [])) :
    Met l y (lw_w y b mL ret) (rmk k mc ms) (kPc D τ sA sV wc sz As) (Qc (va_A wc sz)) mc ms (va_A wc sz) := by
  refine Met.ofW (cc := b) (maxL := mL) (ret := ret) hpl rfl ?_
  intro p e s m args below meth c s₁ B hml hv
  obtain ⟨rfl, ⟨hsz, hP, hK, hD0⟩, hLS⟩ := hv
  have hts := atoms_spec (ws := lw_w y b mL ret) B.pre
  have hown : s.vm.findClass y.cls = some m.cls := findClass_of_methodNamed B.named
  subst hsz
  have hl := lv_entry As (n := mL) hn
  rw [lg_entry_eq]
  exact body p e s m _ below meth c (va_A wc s.heap.size) _ B.exec B.bytes hml B.returns B.notSynchronized (name_of_methodNamed B.named B.method).1 ⟨fun w hw => hts w (List.mem_cons_of_mem _ hw), hown, hK.1, hK.2⟩ hLS (fun q h => Or.inr h) ⟨hP, hD0.self, va_S.rf⟩ hl
theorem k_metF {l : Launch} {y : MethodName} {b : ByteArray} {mL k mc ms sz : Nat} {ret : Option FieldType} {D : va_G} {τ : Nat → ClassId} {sA sV : Nat → Nat} {wc : va_W} {As : List Value} {Qc : (Nat → Prop) → Array Value → State → Outcome → State → Prop} (hpl : plainFor y = true) (hn : (lg_sl As).length ≤ mL)
    (body : ∀ (p : Program) (e : Env) (s : State) (m : MethodId) (args : Array Value) (below : List Frame) (meth : Method) (c : Code) (A : Nat → Prop) (ls : Array Slot), p.tables.exec = Jvm.exec → c.code = b → c.maxLocals = mL → meth.sig.returnType = ret → meth.locks = false → meth.name = y.name → cx D τ s m args y.cls → LK A s s.heap sA sV → (∀ q : Nat, s.heap.size ≤ q → A q) → wS D A s.heap wc s.heap [] → lv_has ls mL (lv_args 0 As) →
      W p l e (rmk k mc ms) s m args below meth c s.heap [] 0 0 (MQ below (Qc A) args s mc ms A) (F0 m 0 ls [])) :
    Met l y (lw_w y b mL ret) (rmk k mc ms) (kPc D τ sA sV wc sz As) (Qc (va_A wc sz)) mc ms (va_A wc sz) := by
  refine va_MetF (cc := b) (maxL := mL) (ret := ret) hpl rfl ?_
  intro p e s m args below meth c s₁ B hml hv
  obtain ⟨rfl, ⟨hsz, hP, hK, hD0⟩, hLS⟩ := hv
  have hts := atoms_spec (ws := lw_w y b mL ret) B.pre
  have hown : s.vm.findClass y.cls = some m.cls := findClass_of_methodNamed B.named
  subst hsz
  have hl := lv_entry As (n := mL) hn
  rw [lg_entry_eq]
  exact body p e s m _ below meth c (va_A wc s.heap.size) _ B.exec B.bytes hml B.returns B.notSynchronized (name_of_methodNamed B.named B.method).1 ⟨fun w hw => hts w (List.mem_cons_of_mem _ hw), hown, hK.1, hK.2⟩ hLS (fun q h => Or.inr h) ⟨hP, hD0.self, va_S.rf⟩ hl
theorem t_met {l : Launch} {y : MethodName} {b : ByteArray} {mL k mc ms sz : Nat} {sa sv : Nat} {bs : List Int} {ret : Option FieldType} {D : va_G} {τ : Nat → ClassId} {sA sV : Nat → Nat} {wc : va_W} {As : List Value} {Qc : (Nat → Prop) → Array Value → State → Outcome → State → Prop} (hpl : plainName y.cls = true) (hn : (lg_sl As).length ≤ mL)
    (body : ∀ (p : Program) (e : Env) (s : State) (m : MethodId) (args : Array Value) (below : List Frame) (meth : Method) (c : Code) (A : Nat → Prop) (ls : Array Slot), p.tables.exec = Jvm.exec → c.code = b → c.maxLocals = mL → meth.sig.returnType = ret → meth.locks = false → meth.name = y.name → cx D τ s m args y.cls → LK A s s.heap sA sV → ST A s s.heap sa sv bs → (∀ q : Nat, s.heap.size ≤ q → A q) → wS D A s.heap wc s.heap [] → lv_has ls mL (lv_args 0 As) →
      W p l e (rmk k mc ms) s m args below meth c s.heap [] 0 0 (MQ below (Qc A) args s mc ms A) (F0 m 0 ls [])) :
    Met l y (lw_w y b mL ret) (rmk k mc ms) (tPc D τ sA sV wc sz sa sv bs As) (Qc (va_A wc sz)) mc ms (va_A wc sz) := by
  refine Met.ofW (cc := b) (maxL := mL) (ret := ret) hpl rfl ?_
  intro p e s m args below meth c s₁ B hml hv
  obtain ⟨rfl, ⟨⟨hsz, hP, hK, hD0⟩, hLS⟩, hST⟩ := hv
  have hts := atoms_spec (ws := lw_w y b mL ret) B.pre
  have hown : s.vm.findClass y.cls = some m.cls := findClass_of_methodNamed B.named
  subst hsz
  have hl := lv_entry As (n := mL) hn
  rw [lg_entry_eq]
  exact body p e s m _ below meth c (va_A wc s.heap.size) _ B.exec B.bytes hml B.returns B.notSynchronized (name_of_methodNamed B.named B.method).1 ⟨fun w hw => hts w (List.mem_cons_of_mem _ hw), hown, hK.1, hK.2⟩ hLS hST (fun q h => Or.inr h) ⟨hP, hD0.self, va_S.rf⟩ hl
def EQi (Wf : Mem → va_W) (Rf : Mem → Prop) (Q : Int → Mem → Prop) : Int → va_W → Prop := fun z w => ∃ M : Mem, Rf M ∧ Q z M ∧ w = Wf M
def EQz (Wf : Mem → va_W) (Rf : Mem → Prop) (Q : Int → Mem → Prop) : Int → va_W → Prop := fun z w => (z = 0 ∨ z = 1) ∧ ∃ M : Mem, Rf M ∧ Q z M ∧ w = Wf M
def EQv (Wf : Mem → va_W) (Rf : Mem → Prop) (Q : Mem → Prop) : va_W → Prop := fun w => ∃ M : Mem, Rf M ∧ Q M ∧ w = Wf M
theorem rm_ok {lev k mL mc ms : Nat} (h : lev + 1 ≤ k) (hm : mL ≤ 45) : lev + 1 ≤ (rmk k mc ms).frames ∧ 8 + (mL + 11) + 64 * lev ≤ (rmk k mc ms).locals := ⟨h, by show _ ≤ 64 * k; omega⟩
/-- a world that is handed over whole -/
def WQ (Wf : Mem → va_W) : Prop := ∃ N : Nat, (∀ M, (Wf M).length = N) ∧ va_nd (List.range N) = true
theorem pick_all (l : va_W) : (List.range l.length).map (fun i => l[i]?) = l.map some := by
  apply List.ext_getElem?
  intro i
  simp only [List.getElem?_map]
  by_cases h : i < l.length
  · simp [h]
  · simp [Nat.le_of_not_lt h]
section KC
variable {p : Program} {l : Launch} {e : Env} {R : Room} {s : State} {m : MethodId} {args : Array Value} {below : List Frame} {meth : Method} {c : Code} {H : Heap} {locs : List Loc} {cells slots : Nat} {Q : State → Prop}
variable {cc : ByteArray} {pc : Nat} {ls : Array Slot} {rest st0 : List Value} {D : va_G} {A : Nat → Prop} {a : Nat} {ws wc wr : va_W} {H0 : Heap} {τ : Nat → ClassId} {own : String} {sA sV : Nat → Nat}
variable {y : MethodName} {b : ByteArray} {mL n lev mc ms index nL cells' slots' : Nat} {ret : Option FieldType} {As : List Value} {Wf : Mem → va_W} {Rf : Mem → Prop} {M0 : Mem}
theorem k_pre {isC : List Nat} {H0 : Heap} (hH : H0 = s.heap) (hC' : cx D τ s m args own) (hA : ∀ q, H0.size ≤ q → A q) (hLS : LK A s s.heap sA sV) (hw : wS D A H0 ws H locs) (hC : isC.map (fun i => ws[i]?) = wc.map some) (hn : va_nd isC = true) {Bs : List Value} : ∀ U : State, U.heap = H → s.WarmedH U.vm → kPc D τ sA sV wc H.size Bs Bs.toArray U := fun U hU hW => by
  subst hH
  have hF := va_free hw.2.1 hw.2.2 hA isC hC
  exact ⟨rfl, (g_pre hC' hw hC hn (Bs := Bs) U hU hW).2, by rw [hU]; exact ((hLS.kept hw.2.2.2.1).warm hW).narrow hF⟩
theorem t_pre {isC : List Nat} {H0 : Heap} {sa sv : Nat} {bs : List Int} (hH : H0 = s.heap) (hC' : cx D τ s m args own) (hA : ∀ q, H0.size ≤ q → A q) (hLS : LK A s s.heap sA sV) (hw : wS D A H0 ws H locs) (hC : isC.map (fun i => ws[i]?) = wc.map some) (hn : va_nd isC = true) (hST : ST (va_A wc H.size) s H sa sv bs) {Bs : List Value} : ∀ U : State, U.heap = H → s.WarmedH U.vm → tPc D τ sA sV wc H.size sa sv bs Bs Bs.toArray U := fun U hU hW =>
  ⟨rfl, (k_pre hH hC' hA hLS hw hC hn (Bs := Bs) U hU hW).2, by rw [hU]; exact hST.moved hW.alike⟩
theorem j_cVi (hx : p.tables.exec = Jvm.exec) (hb : c.code = cc) (hml : c.maxLocals = nL) (hC : cx D τ s m args own) (hLS : LK A s s.heap sA sV) (hA : ∀ q, s.heap.size ≤ q → A q) (hw : wS D A s.heap ws H locs) (hl : ls.size = nL) {Q1 : Int → Mem → Prop} (M : Met l y (lw_w y b mL ret) (rmk lev mc ms) (kPc D τ sA sV (Wf M0) H.size (.ref a :: As)) (gQi D (EQi Wf Rf Q1) (va_A (Wf M0) H.size)) mc ms (va_A (Wf M0) H.size)) (K : KV y b mL ret n) (hlk : Cond.methodLink own index y ∈ lw_good) (isC isR : List Nat) (hCm : isC.map (fun i => ws[i]?) = (Wf M0).map some) (hRm : isR.map (fun i => ws[i]?) = wr.map some) (hnC : va_nd isC = true) (hnR : va_nd isR = true) (hdis : ∀ i ∈ isR, i ∉ isC) {q0 ci : Nat} {fs : List Value} {T : u_T} {N : Nat} (hci : vwCl[ci]? = some (y.cls, T, N)) (hq0 : (Wf M0)[q0]? = some (a, .inr (ci, fs))) (hst : st0 = As.reverse ++ .ref a :: rest) (hn : As.length = n) (hcat : (rest.map fun v => v.category).sum ≤ 8) (hroom : lev + 1 ≤ R.frames ∧ 8 + (mL + 11) + 64 * lev ≤ R.locals) (hcs : cells + mc ≤ R.cells ∧ slots + ms ≤ R.slots) (hc2 : cells + mc = cells') (hs2 : slots + ms = slots') (hd : decode cc pc = .ok (.invokevirtual index, 3))
    (kk : ∀ (z : Int) (M : Mem) (H : Heap) (locs : List Loc), iR z → Rf M → Q1 z M → wS D A s.heap (wr ++ Wf M) H locs → W p l e R s m args below meth c H locs cells' slots' Q (F0 m (pc + 3) ls (.int (iI z) :: rest))) : W p l e R s m args below meth c H locs cells slots Q (F0 m pc ls st0) := by
  have hF := va_free hw.2.1 hw.2.2 hA isC hCm
  refine va_calli (va_runV ⟨hx, hb, hml, hC.2.1, hC.1⟩ M (cwV n hC.1 (g_wsV K hlk) rfl rfl rfl ⟨rfl, K.2.2.2⟩ hroom) ⟨kPc_blind, va_recv hC.2.2.1 (P_pick hw.1 hCm) hci hq0, k_pre rfl hC hA hLS hw hCm hnC⟩ rfl hn hl hst (lv_room hcat) hd hcs) hw.2.2 (fun q _ h => hF q h) hF (fun r u t H1 locs1 ht hvm hp hB hsz hk1 hS => ?_)
  obtain ⟨z, hz, e1, hB⟩ := hB
  obtain ⟨w1, ⟨M1, hR1, hQ1, rfl⟩, h1⟩ := g_behind hw hA hCm hRm hnR hdis ht hk1 hS hB
  subst hc2
  subst hs2
  rw [hp, e1]
  exact kk z M1 H1 locs1 hz hR1 hQ1 h1
theorem k_cVi (hWQ : WQ Wf) (hx : p.tables.exec = Jvm.exec) (hb : c.code = cc) (hml : c.maxLocals = nL) (hC : cx D τ s m args own) (hLS : LK A s s.heap sA sV) (hA : ∀ q, s.heap.size ≤ q → A q) (hw : wS D A s.heap (Wf M0) H locs) (hl : ls.size = nL) {Q1 : Int → Mem → Prop} (M : Met l y (lw_w y b mL ret) (rmk lev 0 0) (kPc D τ sA sV (Wf M0) H.size (.ref a :: As)) (gQi D (EQi Wf Rf Q1) (va_A (Wf M0) H.size)) 0 0 (va_A (Wf M0) H.size)) (K : KV y b mL ret n) (hlk : Cond.methodLink own index y ∈ lw_good) {q0 ci : Nat} {fs : List Value} {T : u_T} {N : Nat} (hci : vwCl[ci]? = some (y.cls, T, N)) (hq0 : (Wf M0)[q0]? = some (a, .inr (ci, fs))) (hst : st0 = As.reverse ++ .ref a :: rest) (hn : As.length = n) (hcat : (rest.map fun v => v.category).sum ≤ 8) (hroom : lev + 1 ≤ R.frames ∧ 8 + (mL + 11) + 64 * lev ≤ R.locals) (hcs : cells ≤ R.cells ∧ slots ≤ R.slots) (hd : decode cc pc = .ok (.invokevirtual index, 3))
    (kk : ∀ (z : Int) (M : Mem) (H : Heap) (locs : List Loc), iR z → Rf M → Q1 z M → wS D A s.heap (Wf M) H locs → W p l e R s m args below meth c H locs cells slots Q (F0 m (pc + 3) ls (.int (iI z) :: rest))) : W p l e R s m args below meth c H locs cells slots Q (F0 m pc ls st0) := by
  obtain ⟨N, hN, hnd⟩ := hWQ
  have hp := pick_all (Wf M0)
  rw [hN] at hp
  exact j_cVi hx hb hml hC hLS hA hw hl (wr := []) M K hlk (List.range N) [] hp rfl hnd rfl (fun i h => absurd h List.not_mem_nil) hci hq0 hst hn hcat hroom hcs rfl rfl hd kk
theorem j_cVz (hx : p.tables.exec = Jvm.exec) (hb : c.code = cc) (hml : c.maxLocals = nL) (hC : cx D τ s m args own) (hLS : LK A s s.heap sA sV) (hA : ∀ q, s.heap.size ≤ q → A q) (hw : wS D A s.heap ws H locs) (hl : ls.size = nL) {Q1 : Int → Mem → Prop} (M : Met l y (lw_w y b mL ret) (rmk lev mc ms) (kPc D τ sA sV (Wf M0) H.size (.ref a :: As)) (gQi D (EQz Wf Rf Q1) (va_A (Wf M0) H.size)) mc ms (va_A (Wf M0) H.size)) (K : KV y b mL ret n) (hlk : Cond.methodLink own index y ∈ lw_good) (isC isR : List Nat) (hCm : isC.map (fun i => ws[i]?) = (Wf M0).map some) (hRm : isR.map (fun i => ws[i]?) = wr.map some) (hnC : va_nd isC = true) (hnR : va_nd isR = true) (hdis : ∀ i ∈ isR, i ∉ isC) {q0 ci : Nat} {fs : List Value} {T : u_T} {N : Nat} (hci : vwCl[ci]? = some (y.cls, T, N)) (hq0 : (Wf M0)[q0]? = some (a, .inr (ci, fs))) (hst : st0 = As.reverse ++ .ref a :: rest) (hn : As.length = n) (hcat : (rest.map fun v => v.category).sum ≤ 8) (hroom : lev + 1 ≤ R.frames ∧ 8 + (mL + 11) + 64 * lev ≤ R.locals) (hcs : cells + mc ≤ R.cells ∧ slots + ms ≤ R.slots) (hc2 : cells + mc = cells') (hs2 : slots + ms = slots') (hd : decode cc pc = .ok (.invokevirtual index, 3))
    (kk : ∀ (z : Int) (M : Mem) (H : Heap) (locs : List Loc), iR z → (z = 0 ∨ z = 1) → Rf M → Q1 z M → wS D A s.heap (wr ++ Wf M) H locs → W p l e R s m args below meth c H locs cells' slots' Q (F0 m (pc + 3) ls (.int (iI z) :: rest))) : W p l e R s m args below meth c H locs cells slots Q (F0 m pc ls st0) := by
  have hF := va_free hw.2.1 hw.2.2 hA isC hCm
  refine va_calli (va_runV ⟨hx, hb, hml, hC.2.1, hC.1⟩ M (cwV n hC.1 (g_wsV K hlk) rfl rfl rfl ⟨rfl, K.2.2.2⟩ hroom) ⟨kPc_blind, va_recv hC.2.2.1 (P_pick hw.1 hCm) hci hq0, k_pre rfl hC hA hLS hw hCm hnC⟩ rfl hn hl hst (lv_room hcat) hd hcs) hw.2.2 (fun q _ h => hF q h) hF (fun r u t H1 locs1 ht hvm hp hB hsz hk1 hS => ?_)
  obtain ⟨z, hz, e1, hB⟩ := hB
  obtain ⟨w1, ⟨h01, M1, hR1, hQ1, rfl⟩, h1⟩ := g_behind hw hA hCm hRm hnR hdis ht hk1 hS hB
  subst hc2
  subst hs2
  rw [hp, e1]
  exact kk z M1 H1 locs1 hz h01 hR1 hQ1 h1
theorem k_cVz (hWQ : WQ Wf) (hx : p.tables.exec = Jvm.exec) (hb : c.code = cc) (hml : c.maxLocals = nL) (hC : cx D τ s m args own) (hLS : LK A s s.heap sA sV) (hA : ∀ q, s.heap.size ≤ q → A q) (hw : wS D A s.heap (Wf M0) H locs) (hl : ls.size = nL) {Q1 : Int → Mem → Prop} (M : Met l y (lw_w y b mL ret) (rmk lev 0 0) (kPc D τ sA sV (Wf M0) H.size (.ref a :: As)) (gQi D (EQz Wf Rf Q1) (va_A (Wf M0) H.size)) 0 0 (va_A (Wf M0) H.size)) (K : KV y b mL ret n) (hlk : Cond.methodLink own index y ∈ lw_good) {q0 ci : Nat} {fs : List Value} {T : u_T} {N : Nat} (hci : vwCl[ci]? = some (y.cls, T, N)) (hq0 : (Wf M0)[q0]? = some (a, .inr (ci, fs))) (hst : st0 = As.reverse ++ .ref a :: rest) (hn : As.length = n) (hcat : (rest.map fun v => v.category).sum ≤ 8) (hroom : lev + 1 ≤ R.frames ∧ 8 + (mL + 11) + 64 * lev ≤ R.locals) (hcs : cells ≤ R.cells ∧ slots ≤ R.slots) (hd : decode cc pc = .ok (.invokevirtual index, 3))
    (kk : ∀ (z : Int) (M : Mem) (H : Heap) (locs : List Loc), iR z → (z = 0 ∨ z = 1) → Rf M → Q1 z M → wS D A s.heap (Wf M) H locs → W p l e R s m args below meth c H locs cells slots Q (F0 m (pc + 3) ls (.int (iI z) :: rest))) : W p l e R s m args below meth c H locs cells slots Q (F0 m pc ls st0) := by
  obtain ⟨N, hN, hnd⟩ := hWQ
  have hp := pick_all (Wf M0)
  rw [hN] at hp
  exact j_cVz hx hb hml hC hLS hA hw hl (wr := []) M K hlk (List.range N) [] hp rfl hnd rfl (fun i h => absurd h List.not_mem_nil) hci hq0 hst hn hcat hroom hcs rfl rfl hd kk
theorem j_cVl (hx : p.tables.exec = Jvm.exec) (hb : c.code = cc) (hml : c.maxLocals = nL) (hC : cx D τ s m args own) (hLS : LK A s s.heap sA sV) (hA : ∀ q, s.heap.size ≤ q → A q) (hw : wS D A s.heap ws H locs) (hl : ls.size = nL) {Q1 : Int → Mem → Prop} (M : Met l y (lw_w y b mL ret) (rmk lev mc ms) (kPc D τ sA sV (Wf M0) H.size (.ref a :: As)) (gQl D (EQi Wf Rf Q1) (va_A (Wf M0) H.size)) mc ms (va_A (Wf M0) H.size)) (K : KV y b mL ret n) (hlk : Cond.methodLink own index y ∈ lw_good) (isC isR : List Nat) (hCm : isC.map (fun i => ws[i]?) = (Wf M0).map some) (hRm : isR.map (fun i => ws[i]?) = wr.map some) (hnC : va_nd isC = true) (hnR : va_nd isR = true) (hdis : ∀ i ∈ isR, i ∉ isC) {q0 ci : Nat} {fs : List Value} {T : u_T} {N : Nat} (hci : vwCl[ci]? = some (y.cls, T, N)) (hq0 : (Wf M0)[q0]? = some (a, .inr (ci, fs))) (hst : st0 = As.reverse ++ .ref a :: rest) (hn : As.length = n) (hcat : (rest.map fun v => v.category).sum ≤ 8) (hroom : lev + 1 ≤ R.frames ∧ 8 + (mL + 11) + 64 * lev ≤ R.locals) (hcs : cells + mc ≤ R.cells ∧ slots + ms ≤ R.slots) (hc2 : cells + mc = cells') (hs2 : slots + ms = slots') (hd : decode cc pc = .ok (.invokevirtual index, 3))
    (kk : ∀ (z : Int) (M : Mem) (H : Heap) (locs : List Loc), lR z → Rf M → Q1 z M → wS D A s.heap (wr ++ Wf M) H locs → W p l e R s m args below meth c H locs cells' slots' Q (F0 m (pc + 3) ls (.long (lI z) :: rest))) : W p l e R s m args below meth c H locs cells slots Q (F0 m pc ls st0) := by
  have hF := va_free hw.2.1 hw.2.2 hA isC hCm
  refine va_calll (va_runV ⟨hx, hb, hml, hC.2.1, hC.1⟩ M (cwV n hC.1 (g_wsV K hlk) rfl rfl rfl ⟨rfl, K.2.2.2⟩ hroom) ⟨kPc_blind, va_recv hC.2.2.1 (P_pick hw.1 hCm) hci hq0, k_pre rfl hC hA hLS hw hCm hnC⟩ rfl hn hl hst (lv_room hcat) hd hcs) hw.2.2 (fun q _ h => hF q h) hF (fun r u t H1 locs1 ht hvm hp hB hsz hk1 hS => ?_)
  obtain ⟨z, hz, e1, hB⟩ := hB
  obtain ⟨w1, ⟨M1, hR1, hQ1, rfl⟩, h1⟩ := g_behind hw hA hCm hRm hnR hdis ht hk1 hS hB
  subst hc2
  subst hs2
  rw [hp, e1]
  exact kk z M1 H1 locs1 hz hR1 hQ1 h1
theorem j_cVv (hx : p.tables.exec = Jvm.exec) (hb : c.code = cc) (hml : c.maxLocals = nL) (hC : cx D τ s m args own) (hLS : LK A s s.heap sA sV) (hA : ∀ q, s.heap.size ≤ q → A q) (hw : wS D A s.heap ws H locs) (hl : ls.size = nL) {Q1 : Mem → Prop} (M : Met l y (lw_w y b mL ret) (rmk lev mc ms) (kPc D τ sA sV (Wf M0) H.size (.ref a :: As)) (gQv D (EQv Wf Rf Q1) (va_A (Wf M0) H.size)) mc ms (va_A (Wf M0) H.size)) (K : KV y b mL ret n) (hlk : Cond.methodLink own index y ∈ lw_good) (isC isR : List Nat) (hCm : isC.map (fun i => ws[i]?) = (Wf M0).map some) (hRm : isR.map (fun i => ws[i]?) = wr.map some) (hnC : va_nd isC = true) (hnR : va_nd isR = true) (hdis : ∀ i ∈ isR, i ∉ isC) {q0 ci : Nat} {fs : List Value} {T : u_T} {N : Nat} (hci : vwCl[ci]? = some (y.cls, T, N)) (hq0 : (Wf M0)[q0]? = some (a, .inr (ci, fs))) (hst : st0 = As.reverse ++ .ref a :: rest) (hn : As.length = n) (hcat : (rest.map fun v => v.category).sum ≤ 8) (hroom : lev + 1 ≤ R.frames ∧ 8 + (mL + 11) + 64 * lev ≤ R.locals) (hcs : cells + mc ≤ R.cells ∧ slots + ms ≤ R.slots) (hc2 : cells + mc = cells') (hs2 : slots + ms = slots') (hd : decode cc pc = .ok (.invokevirtual index, 3))
    (kk : ∀ (M : Mem) (H : Heap) (locs : List Loc), Rf M → Q1 M → wS D A s.heap (wr ++ Wf M) H locs → W p l e R s m args below meth c H locs cells' slots' Q (F0 m (pc + 3) ls rest)) : W p l e R s m args below meth c H locs cells slots Q (F0 m pc ls st0) := by
  have hF := va_free hw.2.1 hw.2.2 hA isC hCm
  refine va_callv (va_runV ⟨hx, hb, hml, hC.2.1, hC.1⟩ M (cwV n hC.1 (g_wsV K hlk) rfl rfl rfl ⟨rfl, K.2.2.2⟩ hroom) ⟨kPc_blind, va_recv hC.2.2.1 (P_pick hw.1 hCm) hci hq0, k_pre rfl hC hA hLS hw hCm hnC⟩ rfl hn hl hst (lv_room hcat) hd hcs) hw.2.2 (fun q _ h => hF q h) hF (fun u t H1 locs1 ht hvm hp hB hsz hk1 hS => ?_)
  obtain ⟨w1, ⟨M1, hR1, hQ1, rfl⟩, h1⟩ := g_behind hw hA hCm hRm hnR hdis ht hk1 hS hB
  subst hc2
  subst hs2
  exact kk M1 H1 locs1 hR1 hQ1 h1
theorem k_cVv (hWQ : WQ Wf) (hx : p.tables.exec = Jvm.exec) (hb : c.code = cc) (hml : c.maxLocals = nL) (hC : cx D τ s m args own) (hLS : LK A s s.heap sA sV) (hA : ∀ q, s.heap.size ≤ q → A q) (hw : wS D A s.heap (Wf M0) H locs) (hl : ls.size = nL) {Q1 : Mem → Prop} (M : Met l y (lw_w y b mL ret) (rmk lev 0 0) (kPc D τ sA sV (Wf M0) H.size (.ref a :: As)) (gQv D (EQv Wf Rf Q1) (va_A (Wf M0) H.size)) 0 0 (va_A (Wf M0) H.size)) (K : KV y b mL ret n) (hlk : Cond.methodLink own index y ∈ lw_good) {q0 ci : Nat} {fs : List Value} {T : u_T} {N : Nat} (hci : vwCl[ci]? = some (y.cls, T, N)) (hq0 : (Wf M0)[q0]? = some (a, .inr (ci, fs))) (hst : st0 = As.reverse ++ .ref a :: rest) (hn : As.length = n) (hcat : (rest.map fun v => v.category).sum ≤ 8) (hroom : lev + 1 ≤ R.frames ∧ 8 + (mL + 11) + 64 * lev ≤ R.locals) (hcs : cells ≤ R.cells ∧ slots ≤ R.slots) (hd : decode cc pc = .ok (.invokevirtual index, 3))
    (kk : ∀ (M : Mem) (H : Heap) (locs : List Loc), Rf M → Q1 M → wS D A s.heap (Wf M) H locs → W p l e R s m args below meth c H locs cells slots Q (F0 m (pc + 3) ls rest)) : W p l e R s m args below meth c H locs cells slots Q (F0 m pc ls st0) := by
  obtain ⟨N, hN, hnd⟩ := hWQ
  have hp := pick_all (Wf M0)
  rw [hN] at hp
  exact j_cVv hx hb hml hC hLS hA hw hl (wr := []) M K hlk (List.range N) [] hp rfl hnd rfl (fun i h => absurd h List.not_mem_nil) hci hq0 hst hn hcat hroom hcs rfl rfl hd kk
theorem j_cSi (hx : p.tables.exec = Jvm.exec) (hb : c.code = cc) (hml : c.maxLocals = nL) (hC : cx D τ s m args own) (hLS : LK A s s.heap sA sV) (hA : ∀ q, s.heap.size ≤ q → A q) (hw : wS D A s.heap ws H locs) (hl : ls.size = nL) {Q1 : Int → Mem → Prop} (M : Met l y (lw_w y b mL ret) (rmk lev mc ms) (kPc D τ sA sV (Wf M0) H.size As) (gQi D (EQi Wf Rf Q1) (va_A (Wf M0) H.size)) mc ms (va_A (Wf M0) H.size)) (K : KS y b mL ret n) (hlk : Cond.methodLink own index y ∈ lw_good) (isC isR : List Nat) (hCm : isC.map (fun i => ws[i]?) = (Wf M0).map some) (hRm : isR.map (fun i => ws[i]?) = wr.map some) (hnC : va_nd isC = true) (hnR : va_nd isR = true) (hdis : ∀ i ∈ isR, i ∉ isC) (hst : st0 = As.reverse ++ rest) (hn : As.length = n) (hcat : (rest.map fun v => v.category).sum ≤ 8) (hroom : lev + 1 ≤ R.frames ∧ 8 + (mL + 11) + 64 * lev ≤ R.locals) (hcs : cells + mc ≤ R.cells ∧ slots + ms ≤ R.slots) (hc2 : cells + mc = cells') (hs2 : slots + ms = slots') (hd : decode cc pc = .ok (.invokestatic index, 3))
    (kk : ∀ (z : Int) (M : Mem) (H : Heap) (locs : List Loc), iR z → Rf M → Q1 z M → wS D A s.heap (wr ++ Wf M) H locs → W p l e R s m args below meth c H locs cells' slots' Q (F0 m (pc + 3) ls (.int (iI z) :: rest))) : W p l e R s m args below meth c H locs cells slots Q (F0 m pc ls st0) := by
  have hF := va_free hw.2.1 hw.2.2 hA isC hCm
  refine va_calli (va_runS ⟨hx, hb, hml, hC.2.1, hC.1⟩ M (va_cwS n hC.1 (g_wsS K hlk) rfl rfl rfl K.2.2.2 hroom) ⟨kPc_blind, k_pre rfl hC hA hLS hw hCm hnC⟩ rfl hn hl hst (lv_room hcat) hd hcs) hw.2.2 (fun q _ h => hF q h) hF (fun r u t H1 locs1 ht hvm hp hB hsz hk1 hS => ?_)
  obtain ⟨z, hz, e1, hB⟩ := hB
  obtain ⟨w1, ⟨M1, hR1, hQ1, rfl⟩, h1⟩ := g_behind hw hA hCm hRm hnR hdis ht hk1 hS hB
  subst hc2
  subst hs2
  rw [hp, e1]
  exact kk z M1 H1 locs1 hz hR1 hQ1 h1
theorem k_cSi (hWQ : WQ Wf) (hx : p.tables.exec = Jvm.exec) (hb : c.code = cc) (hml : c.maxLocals = nL) (hC : cx D τ s m args own) (hLS : LK A s s.heap sA sV) (hA : ∀ q, s.heap.size ≤ q → A q) (hw : wS D A s.heap (Wf M0) H locs) (hl : ls.size = nL) {Q1 : Int → Mem → Prop} (M : Met l y (lw_w y b mL ret) (rmk lev 0 0) (kPc D τ sA sV (Wf M0) H.size As) (gQi D (EQi Wf Rf Q1) (va_A (Wf M0) H.size)) 0 0 (va_A (Wf M0) H.size)) (K : KS y b mL ret n) (hlk : Cond.methodLink own index y ∈ lw_good) (hst : st0 = As.reverse ++ rest) (hn : As.length = n) (hcat : (rest.map fun v => v.category).sum ≤ 8) (hroom : lev + 1 ≤ R.frames ∧ 8 + (mL + 11) + 64 * lev ≤ R.locals) (hcs : cells ≤ R.cells ∧ slots ≤ R.slots) (hd : decode cc pc = .ok (.invokestatic index, 3))
    (kk : ∀ (z : Int) (M : Mem) (H : Heap) (locs : List Loc), iR z → Rf M → Q1 z M → wS D A s.heap (Wf M) H locs → W p l e R s m args below meth c H locs cells slots Q (F0 m (pc + 3) ls (.int (iI z) :: rest))) : W p l e R s m args below meth c H locs cells slots Q (F0 m pc ls st0) := by
  obtain ⟨N, hN, hnd⟩ := hWQ
  have hp := pick_all (Wf M0)
  rw [hN] at hp
  exact j_cSi hx hb hml hC hLS hA hw hl (wr := []) M K hlk (List.range N) [] hp rfl hnd rfl (fun i h => absurd h List.not_mem_nil) hst hn hcat hroom hcs rfl rfl hd kk
theorem j_cSz (hx : p.tables.exec = Jvm.exec) (hb : c.code = cc) (hml : c.maxLocals = nL) (hC : cx D τ s m args own) (hLS : LK A s s.heap sA sV) (hA : ∀ q, s.heap.size ≤ q → A q) (hw : wS D A s.heap ws H locs) (hl : ls.size = nL) {Q1 : Int → Mem → Prop} (M : Met l y (lw_w y b mL ret) (rmk lev mc ms) (kPc D τ sA sV (Wf M0) H.size As) (gQi D (EQz Wf Rf Q1) (va_A (Wf M0) H.size)) mc ms (va_A (Wf M0) H.size)) (K : KS y b mL ret n) (hlk : Cond.methodLink own index y ∈ lw_good) (isC isR : List Nat) (hCm : isC.map (fun i => ws[i]?) = (Wf M0).map some) (hRm : isR.map (fun i => ws[i]?) = wr.map some) (hnC : va_nd isC = true) (hnR : va_nd isR = true) (hdis : ∀ i ∈ isR, i ∉ isC) (hst : st0 = As.reverse ++ rest) (hn : As.length = n) (hcat : (rest.map fun v => v.category).sum ≤ 8) (hroom : lev + 1 ≤ R.frames ∧ 8 + (mL + 11) + 64 * lev ≤ R.locals) (hcs : cells + mc ≤ R.cells ∧ slots + ms ≤ R.slots) (hc2 : cells + mc = cells') (hs2 : slots + ms = slots') (hd : decode cc pc = .ok (.invokestatic index, 3))
    (kk : ∀ (z : Int) (M : Mem) (H : Heap) (locs : List Loc), iR z → (z = 0 ∨ z = 1) → Rf M → Q1 z M → wS D A s.heap (wr ++ Wf M) H locs → W p l e R s m args below meth c H locs cells' slots' Q (F0 m (pc + 3) ls (.int (iI z) :: rest))) : W p l e R s m args below meth c H locs cells slots Q (F0 m pc ls st0) := by
  have hF := va_free hw.2.1 hw.2.2 hA isC hCm
  refine va_calli (va_runS ⟨hx, hb, hml, hC.2.1, hC.1⟩ M (va_cwS n hC.1 (g_wsS K hlk) rfl rfl rfl K.2.2.2 hroom) ⟨kPc_blind, k_pre rfl hC hA hLS hw hCm hnC⟩ rfl hn hl hst (lv_room hcat) hd hcs) hw.2.2 (fun q _ h => hF q h) hF (fun r u t H1 locs1 ht hvm hp hB hsz hk1 hS => ?_)
  obtain ⟨z, hz, e1, hB⟩ := hB
  obtain ⟨w1, ⟨h01, M1, hR1, hQ1, rfl⟩, h1⟩ := g_behind hw hA hCm hRm hnR hdis ht hk1 hS hB
  subst hc2
  subst hs2
  rw [hp, e1]
  exact kk z M1 H1 locs1 hz h01 hR1 hQ1 h1
theorem k_cSz (hWQ : WQ Wf) (hx : p.tables.exec = Jvm.exec) (hb : c.code = cc) (hml : c.maxLocals = nL) (hC : cx D τ s m args own) (hLS : LK A s s.heap sA sV) (hA : ∀ q, s.heap.size ≤ q → A q) (hw : wS D A s.heap (Wf M0) H locs) (hl : ls.size = nL) {Q1 : Int → Mem → Prop} (M : Met l y (lw_w y b mL ret) (rmk lev 0 0) (kPc D τ sA sV (Wf M0) H.size As) (gQi D (EQz Wf Rf Q1) (va_A (Wf M0) H.size)) 0 0 (va_A (Wf M0) H.size)) (K : KS y b mL ret n) (hlk : Cond.methodLink own index y ∈ lw_good) (hst : st0 = As.reverse ++ rest) (hn : As.length = n) (hcat : (rest.map fun v => v.category).sum ≤ 8) (hroom : lev + 1 ≤ R.frames ∧ 8 + (mL + 11) + 64 * lev ≤ R.locals) (hcs : cells ≤ R.cells ∧ slots ≤ R.slots) (hd : decode cc pc = .ok (.invokestatic index, 3))
    (kk : ∀ (z : Int) (M : Mem) (H : Heap) (locs : List Loc), iR z → (z = 0 ∨ z = 1) → Rf M → Q1 z M → wS D A s.heap (Wf M) H locs → W p l e R s m args below meth c H locs cells slots Q (F0 m (pc + 3) ls (.int (iI z) :: rest))) : W p l e R s m args below meth c H locs cells slots Q (F0 m pc ls st0) := by
  obtain ⟨N, hN, hnd⟩ := hWQ
  have hp := pick_all (Wf M0)
  rw [hN] at hp
  exact j_cSz hx hb hml hC hLS hA hw hl (wr := []) M K hlk (List.range N) [] hp rfl hnd rfl (fun i h => absurd h List.not_mem_nil) hst hn hcat hroom hcs rfl rfl hd kk
theorem j_cSl (hx : p.tables.exec = Jvm.exec) (hb : c.code = cc) (hml : c.maxLocals = nL) (hC : cx D τ s m args own) (hLS : LK A s s.heap sA sV) (hA : ∀ q, s.heap.size ≤ q → A q) (hw : wS D A s.heap ws H locs) (hl : ls.size = nL) {Q1 : Int → Mem → Prop} (M : Met l y (lw_w y b mL ret) (rmk lev mc ms) (kPc D τ sA sV (Wf M0) H.size As) (gQl D (EQi Wf Rf Q1) (va_A (Wf M0) H.size)) mc ms (va_A (Wf M0) H.size)) (K : KS y b mL ret n) (hlk : Cond.methodLink own index y ∈ lw_good) (isC isR : List Nat) (hCm : isC.map (fun i => ws[i]?) = (Wf M0).map some) (hRm : isR.map (fun i => ws[i]?) = wr.map some) (hnC : va_nd isC = true) (hnR : va_nd isR = true) (hdis : ∀ i ∈ isR, i ∉ isC) (hst : st0 = As.reverse ++ rest) (hn : As.length = n) (hcat : (rest.map fun v => v.category).sum ≤ 8) (hroom : lev + 1 ≤ R.frames ∧ 8 + (mL + 11) + 64 * lev ≤ R.locals) (hcs : cells + mc ≤ R.cells ∧ slots + ms ≤ R.slots) (hc2 : cells + mc = cells') (hs2 : slots + ms = slots') (hd : decode cc pc = .ok (.invokestatic index, 3))
    (kk : ∀ (z : Int) (M : Mem) (H : Heap) (locs : List Loc), lR z → Rf M → Q1 z M → wS D A s.heap (wr ++ Wf M) H locs → W p l e R s m args below meth c H locs cells' slots' Q (F0 m (pc + 3) ls (.long (lI z) :: rest))) : W p l e R s m args below meth c H locs cells slots Q (F0 m pc ls st0) := by
  have hF := va_free hw.2.1 hw.2.2 hA isC hCm
  refine va_calll (va_runS ⟨hx, hb, hml, hC.2.1, hC.1⟩ M (va_cwS n hC.1 (g_wsS K hlk) rfl rfl rfl K.2.2.2 hroom) ⟨kPc_blind, k_pre rfl hC hA hLS hw hCm hnC⟩ rfl hn hl hst (lv_room hcat) hd hcs) hw.2.2 (fun q _ h => hF q h) hF (fun r u t H1 locs1 ht hvm hp hB hsz hk1 hS => ?_)
  obtain ⟨z, hz, e1, hB⟩ := hB
  obtain ⟨w1, ⟨M1, hR1, hQ1, rfl⟩, h1⟩ := g_behind hw hA hCm hRm hnR hdis ht hk1 hS hB
  subst hc2
  subst hs2
  rw [hp, e1]
  exact kk z M1 H1 locs1 hz hR1 hQ1 h1
theorem k_cSl (hWQ : WQ Wf) (hx : p.tables.exec = Jvm.exec) (hb : c.code = cc) (hml : c.maxLocals = nL) (hC : cx D τ s m args own) (hLS : LK A s s.heap sA sV) (hA : ∀ q, s.heap.size ≤ q → A q) (hw : wS D A s.heap (Wf M0) H locs) (hl : ls.size = nL) {Q1 : Int → Mem → Prop} (M : Met l y (lw_w y b mL ret) (rmk lev 0 0) (kPc D τ sA sV (Wf M0) H.size As) (gQl D (EQi Wf Rf Q1) (va_A (Wf M0) H.size)) 0 0 (va_A (Wf M0) H.size)) (K : KS y b mL ret n) (hlk : Cond.methodLink own index y ∈ lw_good) (hst : st0 = As.reverse ++ rest) (hn : As.length = n) (hcat : (rest.map fun v => v.category).sum ≤ 8) (hroom : lev + 1 ≤ R.frames ∧ 8 + (mL + 11) + 64 * lev ≤ R.locals) (hcs : cells ≤ R.cells ∧ slots ≤ R.slots) (hd : decode cc pc = .ok (.invokestatic index, 3))
    (kk : ∀ (z : Int) (M : Mem) (H : Heap) (locs : List Loc), lR z → Rf M → Q1 z M → wS D A s.heap (Wf M) H locs → W p l e R s m args below meth c H locs cells slots Q (F0 m (pc + 3) ls (.long (lI z) :: rest))) : W p l e R s m args below meth c H locs cells slots Q (F0 m pc ls st0) := by
  obtain ⟨N, hN, hnd⟩ := hWQ
  have hp := pick_all (Wf M0)
  rw [hN] at hp
  exact j_cSl hx hb hml hC hLS hA hw hl (wr := []) M K hlk (List.range N) [] hp rfl hnd rfl (fun i h => absurd h List.not_mem_nil) hst hn hcat hroom hcs rfl rfl hd kk
theorem j_cSv (hx : p.tables.exec = Jvm.exec) (hb : c.code = cc) (hml : c.maxLocals = nL) (hC : cx D τ s m args own) (hLS : LK A s s.heap sA sV) (hA : ∀ q, s.heap.size ≤ q → A q) (hw : wS D A s.heap ws H locs) (hl : ls.size = nL) {Q1 : Mem → Prop} (M : Met l y (lw_w y b mL ret) (rmk lev mc ms) (kPc D τ sA sV (Wf M0) H.size As) (gQv D (EQv Wf Rf Q1) (va_A (Wf M0) H.size)) mc ms (va_A (Wf M0) H.size)) (K : KS y b mL ret n) (hlk : Cond.methodLink own index y ∈ lw_good) (isC isR : List Nat) (hCm : isC.map (fun i => ws[i]?) = (Wf M0).map some) (hRm : isR.map (fun i => ws[i]?) = wr.map some) (hnC : va_nd isC = true) (hnR : va_nd isR = true) (hdis : ∀ i ∈ isR, i ∉ isC) (hst : st0 = As.reverse ++ rest) (hn : As.length = n) (hcat : (rest.map fun v => v.category).sum ≤ 8) (hroom : lev + 1 ≤ R.frames ∧ 8 + (mL + 11) + 64 * lev ≤ R.locals) (hcs : cells + mc ≤ R.cells ∧ slots + ms ≤ R.slots) (hc2 : cells + mc = cells') (hs2 : slots + ms = slots') (hd : decode cc pc = .ok (.invokestatic index, 3))
    (kk : ∀ (M : Mem) (H : Heap) (locs : List Loc), Rf M → Q1 M → wS D A s.heap (wr ++ Wf M) H locs → W p l e R s m args below meth c H locs cells' slots' Q (F0 m (pc + 3) ls rest)) : W p l e R s m args below meth c H locs cells slots Q (F0 m pc ls st0) := by
  have hF := va_free hw.2.1 hw.2.2 hA isC hCm
  refine va_callv (va_runS ⟨hx, hb, hml, hC.2.1, hC.1⟩ M (va_cwS n hC.1 (g_wsS K hlk) rfl rfl rfl K.2.2.2 hroom) ⟨kPc_blind, k_pre rfl hC hA hLS hw hCm hnC⟩ rfl hn hl hst (lv_room hcat) hd hcs) hw.2.2 (fun q _ h => hF q h) hF (fun u t H1 locs1 ht hvm hp hB hsz hk1 hS => ?_)
  obtain ⟨w1, ⟨M1, hR1, hQ1, rfl⟩, h1⟩ := g_behind hw hA hCm hRm hnR hdis ht hk1 hS hB
  subst hc2
  subst hs2
  exact kk M1 H1 locs1 hR1 hQ1 h1
theorem t_cVi (hx : p.tables.exec = Jvm.exec) (hb : c.code = cc) (hml : c.maxLocals = nL) (hC : cx D τ s m args own) (hLS : LK A s s.heap sA sV) (hA : ∀ q, s.heap.size ≤ q → A q) (hw : wS D A s.heap ws H locs) (hl : ls.size = nL) {Q1 : Int → Mem → Prop} {sa sv : Nat} {bs : List Int} (hST : ST (va_A (Wf M0) H.size) s H sa sv bs) (M : Met l y (lw_w y b mL ret) (rmk lev mc ms) (tPc D τ sA sV (Wf M0) H.size sa sv bs (.ref a :: As)) (gQi D (EQi Wf Rf Q1) (va_A (Wf M0) H.size)) mc ms (va_A (Wf M0) H.size)) (K : KV y b mL ret n) (hlk : Cond.methodLink own index y ∈ lw_good) (isC isR : List Nat) (hCm : isC.map (fun i => ws[i]?) = (Wf M0).map some) (hRm : isR.map (fun i => ws[i]?) = wr.map some) (hnC : va_nd isC = true) (hnR : va_nd isR = true) (hdis : ∀ i ∈ isR, i ∉ isC) (hrv : ∃ cell : Cell, H[a]? = some cell ∧ cell.vm.isStatics = false ∧ s.vm.findClass y.cls = some cell.cls) (hst : st0 = As.reverse ++ .ref a :: rest) (hn : As.length = n) (hcat : (rest.map fun v => v.category).sum ≤ 8) (hroom : lev + 1 ≤ R.frames ∧ 8 + (mL + 11) + 64 * lev ≤ R.locals) (hcs : cells + mc ≤ R.cells ∧ slots + ms ≤ R.slots) (hc2 : cells + mc = cells') (hs2 : slots + ms = slots') (hd : decode cc pc = .ok (.invokevirtual index, 3))
    (kk : ∀ (z : Int) (M : Mem) (H : Heap) (locs : List Loc), iR z → Rf M → Q1 z M → wS D A s.heap (wr ++ Wf M) H locs → W p l e R s m args below meth c H locs cells' slots' Q (F0 m (pc + 3) ls (.int (iI z) :: rest))) : W p l e R s m args below meth c H locs cells slots Q (F0 m pc ls st0) := by
  have hF := va_free hw.2.1 hw.2.2 hA isC hCm
  refine va_calli (va_runV ⟨hx, hb, hml, hC.2.1, hC.1⟩ M (cwV n hC.1 (g_wsV K hlk) rfl rfl rfl ⟨rfl, K.2.2.2⟩ hroom) ⟨tPc_blind, hrv, t_pre rfl hC hA hLS hw hCm hnC hST⟩ rfl hn hl hst (lv_room hcat) hd hcs) hw.2.2 (fun q _ h => hF q h) hF (fun r u t H1 locs1 ht hvm hp hB hsz hk1 hS => ?_)
  obtain ⟨z, hz, e1, hB⟩ := hB
  obtain ⟨w1, ⟨M1, hR1, hQ1, rfl⟩, h1⟩ := g_behind hw hA hCm hRm hnR hdis ht hk1 hS hB
  subst hc2
  subst hs2
  rw [hp, e1]
  exact kk z M1 H1 locs1 hz hR1 hQ1 h1
theorem t_cSi (hx : p.tables.exec = Jvm.exec) (hb : c.code = cc) (hml : c.maxLocals = nL) (hC : cx D τ s m args own) (hLS : LK A s s.heap sA sV) (hA : ∀ q, s.heap.size ≤ q → A q) (hw : wS D A s.heap ws H locs) (hl : ls.size = nL) {Q1 : Int → Mem → Prop} {sa sv : Nat} {bs : List Int} (hST : ST (va_A (Wf M0) H.size) s H sa sv bs) (M : Met l y (lw_w y b mL ret) (rmk lev mc ms) (tPc D τ sA sV (Wf M0) H.size sa sv bs As) (gQi D (EQi Wf Rf Q1) (va_A (Wf M0) H.size)) mc ms (va_A (Wf M0) H.size)) (K : KS y b mL ret n) (hlk : Cond.methodLink own index y ∈ lw_good) (isC isR : List Nat) (hCm : isC.map (fun i => ws[i]?) = (Wf M0).map some) (hRm : isR.map (fun i => ws[i]?) = wr.map some) (hnC : va_nd isC = true) (hnR : va_nd isR = true) (hdis : ∀ i ∈ isR, i ∉ isC) (hst : st0 = As.reverse ++ rest) (hn : As.length = n) (hcat : (rest.map fun v => v.category).sum ≤ 8) (hroom : lev + 1 ≤ R.frames ∧ 8 + (mL + 11) + 64 * lev ≤ R.locals) (hcs : cells + mc ≤ R.cells ∧ slots + ms ≤ R.slots) (hc2 : cells + mc = cells') (hs2 : slots + ms = slots') (hd : decode cc pc = .ok (.invokestatic index, 3))
    (kk : ∀ (z : Int) (M : Mem) (H : Heap) (locs : List Loc), iR z → Rf M → Q1 z M → wS D A s.heap (wr ++ Wf M) H locs → W p l e R s m args below meth c H locs cells' slots' Q (F0 m (pc + 3) ls (.int (iI z) :: rest))) : W p l e R s m args below meth c H locs cells slots Q (F0 m pc ls st0) := by
  have hF := va_free hw.2.1 hw.2.2 hA isC hCm
  refine va_calli (va_runS ⟨hx, hb, hml, hC.2.1, hC.1⟩ M (va_cwS n hC.1 (g_wsS K hlk) rfl rfl rfl K.2.2.2 hroom) ⟨tPc_blind, t_pre rfl hC hA hLS hw hCm hnC hST⟩ rfl hn hl hst (lv_room hcat) hd hcs) hw.2.2 (fun q _ h => hF q h) hF (fun r u t H1 locs1 ht hvm hp hB hsz hk1 hS => ?_)
  obtain ⟨z, hz, e1, hB⟩ := hB
  obtain ⟨w1, ⟨M1, hR1, hQ1, rfl⟩, h1⟩ := g_behind hw hA hCm hRm hnR hdis ht hk1 hS hB
  subst hc2
  subst hs2
  rw [hp, e1]
  exact kk z M1 H1 locs1 hz hR1 hQ1 h1
theorem k_cVzA (hWQ : WQ Wf) (hx : p.tables.exec = Jvm.exec) (hb : c.code = cc) (hml : c.maxLocals = nL) (hC : cx D τ s m args own) (hLS : LK A s s.heap sA sV) (hA : ∀ q, s.heap.size ≤ q → A q) (hw : wS D A s.heap (Wf M0) H locs) (hl : ls.size = nL) {Q1 : Int → Mem → Prop} (M : Met l y (lw_w y b mL ret) (rmk lev mc ms) (kPc D τ sA sV (Wf M0) H.size (.ref a :: As)) (gQi D (EQz Wf Rf Q1) (va_A (Wf M0) H.size)) mc ms (va_A (Wf M0) H.size)) (K : KV y b mL ret n) (hlk : Cond.methodLink own index y ∈ lw_good) {q0 ci : Nat} {fs : List Value} {T : u_T} {N : Nat} (hci : vwCl[ci]? = some (y.cls, T, N)) (hq0 : (Wf M0)[q0]? = some (a, .inr (ci, fs))) (hst : st0 = As.reverse ++ .ref a :: rest) (hn : As.length = n) (hcat : (rest.map fun v => v.category).sum ≤ 8) (hroom : lev + 1 ≤ R.frames ∧ 8 + (mL + 11) + 64 * lev ≤ R.locals) (hcs : cells + mc ≤ R.cells ∧ slots + ms ≤ R.slots) (hc2 : cells + mc = cells') (hs2 : slots + ms = slots') (hd : decode cc pc = .ok (.invokevirtual index, 3))
    (kk : ∀ (z : Int) (M : Mem) (H : Heap) (locs : List Loc), iR z → (z = 0 ∨ z = 1) → Rf M → Q1 z M → wS D A s.heap (Wf M) H locs → W p l e R s m args below meth c H locs cells' slots' Q (F0 m (pc + 3) ls (.int (iI z) :: rest))) : W p l e R s m args below meth c H locs cells slots Q (F0 m pc ls st0) := by
  obtain ⟨N, hN, hnd⟩ := hWQ
  have hp := pick_all (Wf M0)
  rw [hN] at hp
  exact j_cVz hx hb hml hC hLS hA hw hl (wr := []) M K hlk (List.range N) [] hp rfl hnd rfl (fun i h => absurd h List.not_mem_nil) hci hq0 hst hn hcat hroom hcs hc2 hs2 hd kk
theorem k_iret (hWQ : WQ Wf) (hx : p.tables.exec = Jvm.exec) (hb : c.code = cc) (hr : meth.sig.returnType = some .int) (hlk : meth.locks = false) (hw : wS D A s.heap (Wf M0) H locs) {Q1 : Int → Mem → Prop} (hM : Rf M0) {z : Int} (hz : iR z) (hv : Q1 z M0) (hd : decode cc pc = .ok (.ireturn, 1)) : W p l e R s m args below meth c H locs cells slots (MQ below (gQi D (EQi Wf Rf Q1) A) args s cells slots A) (F0 m pc ls [.int (iI z)]) := by
  obtain ⟨N, hN, hnd⟩ := hWQ
  have hp := pick_all (Wf M0)
  rw [hN] at hp
  exact r_iret hx hb hr hlk hw (Wf M0) (List.range N) hp hnd hz ⟨M0, hM, hv, rfl⟩ hd
theorem k_zret (hWQ : WQ Wf) (hx : p.tables.exec = Jvm.exec) (hb : c.code = cc) (hr : meth.sig.returnType = some .boolean) (hlk : meth.locks = false) (hw : wS D A s.heap (Wf M0) H locs) {Q1 : Int → Mem → Prop} (hM : Rf M0) {z : Int} (hz : iR z) (h01 : z = 0 ∨ z = 1) (hv : Q1 z M0) (hd : decode cc pc = .ok (.ireturn, 1)) : W p l e R s m args below meth c H locs cells slots (MQ below (gQi D (EQz Wf Rf Q1) A) args s cells slots A) (F0 m pc ls [.int (iI z)]) := by
  obtain ⟨N, hN, hnd⟩ := hWQ
  have hp := pick_all (Wf M0)
  rw [hN] at hp
  exact r_zret hx hb hr hlk hw (Wf M0) (List.range N) hp hnd hz h01 ⟨h01, M0, hM, hv, rfl⟩ hd
theorem k_lret (hWQ : WQ Wf) (hx : p.tables.exec = Jvm.exec) (hb : c.code = cc) (hr : meth.sig.returnType = some .long) (hlk : meth.locks = false) (hw : wS D A s.heap (Wf M0) H locs) {Q1 : Int → Mem → Prop} (hM : Rf M0) {z : Int} (hz : lR z) (hv : Q1 z M0) (hd : decode cc pc = .ok (.lreturn, 1)) : W p l e R s m args below meth c H locs cells slots (MQ below (gQl D (EQi Wf Rf Q1) A) args s cells slots A) (F0 m pc ls [.long (lI z)]) := by
  obtain ⟨N, hN, hnd⟩ := hWQ
  have hp := pick_all (Wf M0)
  rw [hN] at hp
  exact r_lret hx hb hr hlk hw (Wf M0) (List.range N) hp hnd hz ⟨M0, hM, hv, rfl⟩ hd
theorem k_vret (hWQ : WQ Wf) (hx : p.tables.exec = Jvm.exec) (hb : c.code = cc) (hr : meth.sig.returnType = none) (hlk : meth.locks = false) (hw : wS D A s.heap (Wf M0) H locs) {Q1 : Mem → Prop} (hM : Rf M0) (hv : Q1 M0) (hd : decode cc pc = .ok (.return_, 1)) : W p l e R s m args below meth c H locs cells slots (MQ below (gQv D (EQv Wf Rf Q1) A) args s cells slots A) (F0 m pc ls []) := by
  obtain ⟨N, hN, hnd⟩ := hWQ
  have hp := pick_all (Wf M0)
  rw [hN] at hp
  exact r_vret hx hb hr hlk hw (Wf M0) (List.range N) hp hnd ⟨M0, hM, hv, rfl⟩ hd
end KC
