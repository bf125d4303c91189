section
/-! BASE. Ints are written iI of an Int, arrays ar of a function on Int; the kit's rows in these words. -/
def iI (z : Int) : Int32 := Int32.ofInt z
def lI (z : Int) : Int64 := Int64.ofInt z
abbrev iR (z : Int) : Prop := -2147483648 ≤ z ∧ z ≤ 2147483647
abbrev lR (z : Int) : Prop := -9223372036854775808 ≤ z ∧ z ≤ 9223372036854775807
theorem iI_add (a b : Int) : iI a + iI b = iI (a + b) := (Int32.ofInt_add a b).symm
theorem iI_sub (a b : Int) : iI a - iI b = iI (a - b) := (Int32.ofInt_sub a b).symm
theorem iI_mul (a b : Int) : iI a * iI b = iI (a * b) := (Int32.ofInt_mul a b).symm
theorem iI_neg (a : Int) : - iI a = iI (-a) := (Int32.ofInt_neg a).symm
theorem lI_add (a b : Int) : lI a + lI b = lI (a + b) := (Int64.ofInt_add a b).symm
theorem lI_mul (a b : Int) : lI a * lI b = lI (a * b) := (Int64.ofInt_mul a b).symm
theorem iI_toInt {z : Int} (h : iR z) : (iI z).toInt = z := Int32.toInt_ofInt_of_le (by omega) (by omega)
theorem lI_toInt {z : Int} (h : lR z) : (lI z).toInt = z := Int64.toInt_ofInt_of_le (by omega) (by omega)
theorem iI_of (x : Int32) : ∃ z : Int, iR z ∧ x = iI z := ⟨x.toInt, ⟨by have := Int32.le_toInt x; omega, by have := Int32.toInt_lt x; omega⟩, (Int32.ofInt_toInt x).symm⟩
theorem lI_of (x : Int64) : ∃ z : Int, lR z ∧ x = lI z := ⟨x.toInt, ⟨by have := Int64.le_toInt x; omega, by have := Int64.toInt_lt x; omega⟩, (Int64.ofInt_toInt x).symm⟩
theorem iI_lt {a b : Int} (ha : iR a) (hb : iR b) : iI a < iI b ↔ a < b := by rw [Int32.lt_iff_toInt_lt, iI_toInt ha, iI_toInt hb]
theorem iI_le {a b : Int} (ha : iR a) (hb : iR b) : iI a ≤ iI b ↔ a ≤ b := by rw [Int32.le_iff_toInt_le, iI_toInt ha, iI_toInt hb]
theorem iI_eq {a b : Int} (ha : iR a) (hb : iR b) : iI a = iI b ↔ a = b := by rw [← Int32.toInt_inj, iI_toInt ha, iI_toInt hb]
theorem lI_lt {a b : Int} (ha : lR a) (hb : lR b) : lI a < lI b ↔ a < b := by rw [Int64.lt_iff_toInt_lt, lI_toInt ha, lI_toInt hb]
theorem lI_eq {a b : Int} (ha : lR a) (hb : lR b) : lI a = lI b ↔ a = b := by rw [← Int64.toInt_inj, lI_toInt ha, lI_toInt hb]
theorem iI_clamp {z : Int} (h : iR z) : (iI z).toNatClampNeg = z.toNat := by
  show (iI z).toInt.toNat = _
  rw [iI_toInt h]
theorem iI_in {z : Int} {n : Nat} (h0 : 0 ≤ z) (h1 : z < (n : Int)) (hn : n ≤ 2147483647) : vp_in (iI z) n := vp_in_iff.mpr (by rw [iI_toInt ⟨by omega, by omega⟩]; exact ⟨h0, h1⟩)
theorem iI_z : (0 : Int32) = iI 0 := rfl
theorem iI_nn {z : Int} (h : iR z) (h0 : 0 ≤ z) : ¬ iI z < 0 := by rw [iI_z, iI_lt h (by decide)]; omega
theorem iI_nz {z : Int} (h : iR z) (h0 : ¬ z = 0) : ¬ iI z = 0 := by rw [iI_z, iI_eq h (by decide)]; exact h0
theorem iI_long {z : Int} (h : iR z) : (iI z).toInt64 = lI z := by
  rw [← Int64.toInt_inj, Int32.toInt_toInt64, iI_toInt h, lI_toInt ⟨by omega, by omega⟩]
def ar (g : Int → Int) : Nat → Int32 := fun k => iI (g k)
def arL (g : Int → Int) : Nat → Int64 := fun k => lI (g k)
def up (g : Int → Int) (e v : Int) : Int → Int := fun j => if j = e then v else g j
def cpy (f g : Int → Int) (n : Int) : Int → Int := fun j => if 0 ≤ j ∧ j < n then f j else g j
theorem ar_get (g : Int → Int) {e : Int} (h0 : 0 ≤ e) (h1 : e ≤ 2147483647) : ar g (iI e).toNatClampNeg = iI (g e) := by
  rw [iI_clamp ⟨by omega, h1⟩]
  show iI (g (e.toNat : Int)) = _
  rw [Int.toNat_of_nonneg h0]
theorem arL_get (g : Int → Int) {e : Int} (h0 : 0 ≤ e) (h1 : e ≤ 2147483647) : arL g (iI e).toNatClampNeg = lI (g e) := by
  rw [iI_clamp ⟨by omega, h1⟩]
  show lI (g (e.toNat : Int)) = _
  rw [Int.toNat_of_nonneg h0]
theorem ar_set (g : Int → Int) {e v : Int} (h0 : 0 ≤ e) (h1 : e ≤ 2147483647) : upd (ar g) (iI e).toNatClampNeg (iI v) = ar (up g e v) := by
  rw [iI_clamp ⟨by omega, h1⟩]
  funext k
  by_cases h : k = e.toNat
  · subst h
    rw [show upd (ar g) e.toNat (iI v) e.toNat = iI v from pk_us]
    show _ = iI (if ((e.toNat : Nat) : Int) = e then v else g _)
    rw [if_pos (Int.toNat_of_nonneg h0)]
  · rw [pk_un h]
    show iI (g k) = iI (if (k : Int) = e then v else g k)
    rw [if_neg (by omega)]
theorem arL_set (g : Int → Int) {e v : Int} (h0 : 0 ≤ e) (h1 : e ≤ 2147483647) : vp_updL (arL g) (iI e).toNatClampNeg (lI v) = arL (up g e v) := by
  rw [iI_clamp ⟨by omega, h1⟩]
  funext k
  by_cases h : k = e.toNat
  · subst h
    rw [pk_uLs]
    show _ = lI (if ((e.toNat : Nat) : Int) = e then v else g _)
    rw [if_pos (Int.toNat_of_nonneg h0)]
  · rw [pk_uLn h]
    show lI (g k) = lI (if (k : Int) = e then v else g k)
    rw [if_neg (by omega)]
theorem ar_cpy (f g : Int → Int) {n : Int} (h0 : 0 ≤ n) (h1 : n ≤ 2147483647) : va_cpy (ar f) (ar g) (iI 0).toNatClampNeg (iI 0).toNatClampNeg (iI n).toNatClampNeg = ar (cpy f g n) := by
  rw [iI_clamp (show iR 0 by decide), iI_clamp ⟨by omega, h1⟩]
  funext k
  by_cases h : (k : Int) < n
  · rw [pk_cpy_in (by simp) (by simp; omega)]
    show iI (f _) = iI (if 0 ≤ (k : Int) ∧ (k : Int) < n then f k else g k)
    rw [if_pos ⟨by omega, h⟩]
    simp
  · rw [pk_cpy_out (Or.inr (by simp; omega))]
    show iI (g k) = iI (if 0 ≤ (k : Int) ∧ (k : Int) < n then f k else g k)
    rw [if_neg (by omega)]
-- the words: the whole table that may go over a call
def lw_good : List Cond := lw_tbl.filter goodWord
def lw_w (y : MethodName) (b : ByteArray) (n : Nat) (r : Option FieldType) : List Cond := .code y b n r :: lw_good
theorem lw_gi (i : Nat) {w : Cond} (h : lw_tbl[i]? = some w) (hg : goodWord w = true) : w ∈ lw_good := List.mem_filter.mpr ⟨List.mem_of_getElem? h, hg⟩
theorem lw_gt {w : Cond} (h : w ∈ lw_good) : w ∈ lw_tbl := (List.mem_filter.mp h).1
theorem lw_gg {w : Cond} (h : w ∈ lw_good) : (w.onTables && w.keeps) = true ∨ ∃ ty, w = .arrayClass ty := good_of_word (List.mem_filter.mp h).2
theorem lw_gl {ws : List Cond} (h : ws.all (fun w => decide (w ∈ lw_tbl) && goodWord w) = true) : ∀ w ∈ ws, w ∈ lw_good := fun w hw => by
  have h1 := List.all_eq_true.mp h w hw
  rw [Bool.and_eq_true] at h1
  exact List.mem_filter.mpr ⟨of_decide_eq_true h1.1, h1.2⟩
theorem g_good {big ws : List Cond} (hb : ∀ w ∈ lw_good, w ∈ big) (h : ∀ w ∈ ws, w ∈ lw_good) : GoodIn big ws := fun w hw => ⟨hb w (h w hw), lw_gg (h w hw)⟩
-- the kinds of arrays
abbrev ty5 (τ : Nat → ClassId) : List (ClassId × FieldType) := [(τ 0, .int), (τ 1, .long), (τ 2, .boolean), (τ 3, .object "BehindAnotherHearse$Scene"), (τ 4, .array .int)]
theorem AOA_spec {t : FieldType} {U : State} (h : va_AOA t U) : ∃ comp c k, U.vm.findClass (FieldType.array t).toString = some comp ∧ (U.vm.classes.findIdx? fun x => match x.kind with | .array component _ => component == comp | _ => false) = some c ∧ U.vm.classes[c]? = some k ∧ k.kind = .array comp (.array t) ∧ U.vm.findClass ("[" ++ (FieldType.array t).toString) = some c := by
  have h : (Cond.arrayOver (.array t)).holds #[] U none U [] = true := h
  simp only [Cond.holds, Cond.value, beq_iff_eq] at h
  cases hc : U.vm.findClass (FieldType.array t).toString with
  | none => simp [hc] at h
  | some comp =>
    simp only [hc, Option.bind_some, Option.bind_eq_some_iff, Option.map_eq_some_iff] at h
    obtain ⟨c, hi, k, hk, hb⟩ := h
    obtain ⟨hlt, hp, -⟩ := Array.findIdx?_eq_some_iff_getElem.mp hi
    have hkk : U.vm.classes[c] = k := (Array.getElem?_eq_some_iff.mp hk).2
    rw [hkk] at hp
    cases hkind : k.kind with
    | array component ty =>
      rw [hkind] at hb hp
      simp at hb hp
      exact ⟨comp, c, k, rfl, hi, hk, by rw [hkind, hp, hb.1], hb.2⟩
    | _ => rw [hkind] at hb; simp at hb
theorem va_AOA.moved {t : FieldType} {u U : State} (hvm : u.vm.Alike U.vm) (h : va_AOA t u) : va_AOA t U := by
  obtain ⟨comp, c, k, h1, h2, h3, h4, h5⟩ := AOA_spec h
  obtain ⟨k', hk', he⟩ := hvm.2.2 _ _ h3
  have hi : (U.vm.classes.findIdx? fun (x : Class) => match x.kind with | .array component _ => component == comp | _ => false) = some c := by
    have e1 := va_idx_bare U.vm comp
    have e2 := va_idx_bare u.vm comp
    have e3 := hvm.bare_eq
    first | rw [e3] at e1 | rw [← e3] at e1
    exact e1.symm.trans (e2.trans h2)
  have hkind : k'.kind = .array comp (.array t) := by rw [he]; exact h4
  have f1 : U.vm.findClass (FieldType.array t).toString = some comp := by rw [hvm.findClass]; exact h1
  have f2 : U.vm.findClass ("[" ++ (FieldType.array t).toString) = some c := by rw [hvm.findClass]; exact h5
  unfold va_AOA Cond.before Cond.holds
  simp only [Cond.value]
  rw [f1, Option.bind_some]
  refine (congrArg (fun o : Option Nat => (o.bind (fun c => (U.vm.classes[c]?).map fun (k : Class) => match k.kind with | .array _ ty => decide (ty = FieldType.array t) && decide (U.vm.findClass ("[" ++ (FieldType.array t).toString) = some c) | _ => false) == some true)) hi).trans ?_
  simp [hk', hkind, f2]
def isNest : Cond → Bool
  | .fieldLinkNest _ _ _ _ _ _ => true
  | .methodLinkNest _ _ _ _ => true
  | .declares _ => true
  | .castable _ _ => true
  | _ => false
def lw_nest : List Cond := lw_tbl.filter isNest
theorem lw_ni (i : Nat) {w : Cond} (h : lw_tbl[i]? = some w) (hg : isNest w = true) : w ∈ lw_nest := List.mem_filter.mpr ⟨List.mem_of_getElem? h, hg⟩
/-- the words that go over a call by rows of their own -/
def NXw (U : State) : Prop := ∀ w ∈ lw_nest, va_Nw w U
def NX (U : State) : Prop := NXw U ∧ va_AO "BehindAnotherHearse$Scene" U ∧ va_AOA .int U
theorem NXw.same {u U : State} (h : u.vm = U.vm) (hN : NXw u) : NXw U := fun w hw => by
  have h1 := (List.mem_filter.mp hw).2
  have h2 := hN w hw
  revert h1 h2
  cases w <;> intro h1 h2 <;> first | exact absurd h1 Bool.false_ne_true | exact va_Nw.same rfl h h2 | (simp [isNest] at h1)
theorem NXw.warm {s U : State} (hW : s.WarmedH U.vm) (hN : NXw s) : NXw U := fun w hw => by
  have h1 := (List.mem_filter.mp hw).2
  have h2 := hN w hw
  revert h1 h2
  cases w <;> intro h1 h2 <;> first | exact absurd h1 Bool.false_ne_true | exact va_Nw.warmF hW h2  | exact va_Nw.warmM hW h2 | exact va_Nw.warmD hW h2 | exact va_Nw.warmC hW h2 | (simp [isNest] at h1)
theorem NX.same {u U : State} (h : u.vm = U.vm) (hN : NX u) : NX U := ⟨hN.1.same h, hN.2.1.moved (by rw [h]; exact Vm.Alike.refl _), hN.2.2.moved (by rw [h]; exact Vm.Alike.refl _)⟩
theorem NX.warm {s U : State} (hW : s.WarmedH U.vm) (hN : NX s) : NX U := ⟨hN.1.warm hW, hN.2.1.moved hW.alike, hN.2.2.moved hW.alike⟩
def cx (D : va_G) (τ : Nat → ClassId) (s : State) (m : MethodId) (args : Array Value) (own : String) : Prop := (∀ w ∈ lw_good, w.before args s = true) ∧ s.vm.findClass own = some m.cls ∧ va_K D vwCl (ty5 τ) s ∧ NX s
def wS (D : va_G) (A : Nat → Prop) (H0 : Heap) (ws : va_W) (H : Heap) (locs : List Loc) : Prop := va_P D vwCl ws H ∧ va_D A ws ∧ va_S A H0 H locs
abbrev rmk (k mc ms : Nat) : Room := { frames := k, cells := mc, slots := ms, locals := 64 * k }
def gPre (D : va_G) (τ : Nat → ClassId) (wc : va_W) (sz : Nat) : State → Prop := fun U => U.heap.size = sz ∧ va_P D vwCl wc U.heap ∧ (va_K D vwCl (ty5 τ) U ∧ NX U) ∧ va_D (fun _ => True) wc
abbrev gPc (D : va_G) (τ : Nat → ClassId) (wc : va_W) (sz : Nat) (As : List Value) : Array Value → State → Prop := va_Pc As (gPre D τ wc sz)
def gW (D : va_G) (A : Nat → Prop) (E : va_W → Prop) (t : State) : Prop := ∃ ws' : va_W, E ws' ∧ va_P D vwCl ws' t.heap ∧ va_D A ws'
def gQi (D : va_G) (E : Int → va_W → Prop) (A : Nat → Prop) : Array Value → State → Outcome → State → Prop := va_Qi (fun r u => r = u) (fun r t => ∃ z : Int, iR z ∧ r = iI z ∧ gW D A (E z) t) A
def gQl (D : va_G) (E : Int → va_W → Prop) (A : Nat → Prop) : Array Value → State → Outcome → State → Prop := va_Ql (fun r u => r = u) (fun r t => ∃ z : Int, lR z ∧ r = lI z ∧ gW D A (E z) t) A
def gQv (D : va_G) (E : va_W → Prop) (A : Nat → Prop) : Array Value → State → Outcome → State → Prop := va_Qv (fun _ : Unit => True) (fun _ t => gW D A E t) A
theorem gPc_blind {D : va_G} {τ : Nat → ClassId} {wc : va_W} {sz : Nat} {As : List Value} : FrameBlind (gPc D τ wc sz As) := fun a U g mk q => by
  obtain ⟨q0, q1, qP, qK, qD⟩ := q
  exact ⟨q0, q1, qP, ⟨va_K.moved (u := U) (U := U.calling g mk a) (Vm.Alike.refl U.vm) qK.1, NX.same (u := U) (U := U.calling g mk a) rfl qK.2⟩, qD⟩
/-- a contract out of a walk of its body -/
theorem g_met {l : Launch} {y : MethodName} {b : ByteArray} {mL k mc ms sz : Nat} {ret : Option FieldType} {D : va_G} {τ : Nat → ClassId} {wc : va_W} {As : List Value} {Qc : (Nat → Prop) → Array Value → State → Outcome → State → Prop} (hpl : plainName y.cls = true) (hn : (lg_sl As).length ≤ mL)
    (body : ∀ (p : Program) (e : Env) (s : State) (m : MethodId) (args : Array Value) (below : List Frame) (meth : Method) (c : Code) (A : Nat → Prop) (ls : Array Slot), p.tables.exec = Jvm.exec → c.code = b → c.maxLocals = mL → meth.sig.returnType = ret → meth.locks = false → meth.name = y.name → cx D τ s m args y.cls → (∀ q : Nat, s.heap.size ≤ q → A q) → wS D A s.heap wc s.heap [] → lv_has ls mL (lv_args 0 As) →
      W p l e (rmk k mc ms) s m args below meth c s.heap [] 0 0 (MQ below (Qc A) args s mc ms A) (F0 m 0 ls [])) :
    Met l y (lw_w y b mL ret) (rmk k mc ms) (gPc D τ wc sz As) (Qc (va_A wc sz)) mc ms (va_A wc sz) := by
  refine Met.ofW (cc := b) (maxL := mL) (ret := ret) hpl rfl ?_
  intro p e s m args below meth c s₁ B hml hv
  obtain ⟨rfl, hsz, hP, hK, hD0⟩ := hv
  have hts := atoms_spec (ws := lw_w y b mL ret) B.pre
  have hown : s.vm.findClass y.cls = some m.cls := findClass_of_methodNamed B.named
  subst hsz
  have hl := lv_entry As (n := mL) hn
  rw [lg_entry_eq]
  exact body p e s m _ below meth c (va_A wc s.heap.size) _ B.exec B.bytes hml B.returns B.notSynchronized (name_of_methodNamed B.named B.method).1 ⟨fun w hw => hts w (List.mem_cons_of_mem _ hw), hown, hK.1, hK.2⟩ (fun q h => Or.inr h) ⟨hP, hD0.self, va_S.rf⟩ hl
section RW
variable {p : Program} {l : Launch} {e : Env} {R : Room} {s : State} {m : MethodId} {args : Array Value} {below : List Frame} {meth : Method} {c : Code} {H : Heap} {locs : List Loc} {cells slots : Nat} {Q : State → Prop}
variable {cc : ByteArray} {pc : Nat} {ls : Array Slot} {rest : List Value} {D : va_G} {A : Nat → Prop} {a : Nat} {ws : va_W} {H0 : Heap} {τ : Nat → ClassId} {own : String}

theorem r_iadd (hx : p.tables.exec = Jvm.exec) (hb : c.code = cc) {a b z : Int} (hd : decode cc pc = .ok (.iadd, 1)) (hz : a + b = z) (k : W p l e R s m args below meth c H locs cells slots Q (F0 m (pc + 1) ls (.int (iI z) :: rest))) : W p l e R s m args below meth c H locs cells slots Q (F0 m pc ls (.int (iI b) :: .int (iI a) :: rest)) := lv_iadd hx hb hd (by rw [iI_add, hz]; exact k)
theorem r_isub (hx : p.tables.exec = Jvm.exec) (hb : c.code = cc) {a b z : Int} (hd : decode cc pc = .ok (.isub, 1)) (hz : a - b = z) (k : W p l e R s m args below meth c H locs cells slots Q (F0 m (pc + 1) ls (.int (iI z) :: rest))) : W p l e R s m args below meth c H locs cells slots Q (F0 m pc ls (.int (iI b) :: .int (iI a) :: rest)) := lv_isub hx hb hd (by rw [iI_sub, hz]; exact k)
theorem r_imul (hx : p.tables.exec = Jvm.exec) (hb : c.code = cc) {a b z : Int} (hd : decode cc pc = .ok (.imul, 1)) (hz : a * b = z) (k : W p l e R s m args below meth c H locs cells slots Q (F0 m (pc + 1) ls (.int (iI z) :: rest))) : W p l e R s m args below meth c H locs cells slots Q (F0 m pc ls (.int (iI b) :: .int (iI a) :: rest)) := lv_imul hx hb hd (by rw [iI_mul, hz]; exact k)
theorem r_ladd (hx : p.tables.exec = Jvm.exec) (hb : c.code = cc) {a b z : Int} (hd : decode cc pc = .ok (.ladd, 1)) (hz : a + b = z) (k : W p l e R s m args below meth c H locs cells slots Q (F0 m (pc + 1) ls (.long (lI z) :: rest))) : W p l e R s m args below meth c H locs cells slots Q (F0 m pc ls (.long (lI b) :: .long (lI a) :: rest)) := lv_ladd hx hb hd (by rw [lI_add, hz]; exact k)
theorem r_lmul (hx : p.tables.exec = Jvm.exec) (hb : c.code = cc) {a b z : Int} (hd : decode cc pc = .ok (.lmul, 1)) (hz : a * b = z) (k : W p l e R s m args below meth c H locs cells slots Q (F0 m (pc + 1) ls (.long (lI z) :: rest))) : W p l e R s m args below meth c H locs cells slots Q (F0 m pc ls (.long (lI b) :: .long (lI a) :: rest)) := lv_lmul hx hb hd (by rw [lI_mul, hz]; exact k)
theorem r_ineg (hx : p.tables.exec = Jvm.exec) (hb : c.code = cc) {a z : Int} (hd : decode cc pc = .ok (.ineg, 1)) (hz : -a = z) (k : W p l e R s m args below meth c H locs cells slots Q (F0 m (pc + 1) ls (.int (iI z) :: rest))) : W p l e R s m args below meth c H locs cells slots Q (F0 m pc ls (.int (iI a) :: rest)) := lv_ineg hx hb hd (by rw [iI_neg, hz]; exact k)
theorem r_iconst (hx : p.tables.exec = Jvm.exec) (hb : c.code = cc) {n : Int} (hd : decode cc pc = .ok (.iconst n, 1)) (k : W p l e R s m args below meth c H locs cells slots Q (F0 m (pc + 1) ls (.int (iI n) :: rest))) : W p l e R s m args below meth c H locs cells slots Q (F0 m pc ls rest) := lv_iconst hx hb hd rfl k
theorem r_bipush (hx : p.tables.exec = Jvm.exec) (hb : c.code = cc) {n : Int} (hd : decode cc pc = .ok (.bipush n, 2)) (hv : (Int8.ofInt n).toInt32 = iI n) (k : W p l e R s m args below meth c H locs cells slots Q (F0 m (pc + 2) ls (.int (iI n) :: rest))) : W p l e R s m args below meth c H locs cells slots Q (F0 m pc ls rest) := lv_bipush hx hb hd hv k
theorem r_sipush (hx : p.tables.exec = Jvm.exec) (hb : c.code = cc) {n : Int} (hd : decode cc pc = .ok (.sipush n, 3)) (hv : (Int16.ofInt n).toInt32 = iI n) (k : W p l e R s m args below meth c H locs cells slots Q (F0 m (pc + 3) ls (.int (iI n) :: rest))) : W p l e R s m args below meth c H locs cells slots Q (F0 m pc ls rest) := lv_sipush hx hb hd hv k
theorem r_lconst (hx : p.tables.exec = Jvm.exec) (hb : c.code = cc) {n : Fin 2} {z : Int} (hd : decode cc pc = .ok (.lconst n, 1)) (hv : Int64.ofNat (n : Nat) = lI z) (k : W p l e R s m args below meth c H locs cells slots Q (F0 m (pc + 1) ls (.long (lI z) :: rest))) : W p l e R s m args below meth c H locs cells slots Q (F0 m pc ls rest) := lv_lconst hx hb hd hv k
theorem r_i2l (hx : p.tables.exec = Jvm.exec) (hb : c.code = cc) {a : Int} (hd : decode cc pc = .ok (.i2l, 1)) (h : iR a) (k : W p l e R s m args below meth c H locs cells slots Q (F0 m (pc + 1) ls (.long (lI a) :: rest))) : W p l e R s m args below meth c H locs cells slots Q (F0 m pc ls (.int (iI a) :: rest)) := lv_i2l hx hb hd (iI_long h) k
theorem r_iand (hx : p.tables.exec = Jvm.exec) (hb : c.code = cc) {a b : Int} (hd : decode cc pc = .ok (.iand, 1)) (k : ∀ z : Int, iR z → iI a &&& iI b = iI z → W p l e R s m args below meth c H locs cells slots Q (F0 m (pc + 1) ls (.int (iI z) :: rest))) : W p l e R s m args below meth c H locs cells slots Q (F0 m pc ls (.int (iI b) :: .int (iI a) :: rest)) := by
  obtain ⟨z, h1, h2⟩ := iI_of (iI a &&& iI b)
  exact lv_iand hx hb hd (by rw [h2]; exact k z h1 h2)
theorem r_ior (hx : p.tables.exec = Jvm.exec) (hb : c.code = cc) {a b : Int} (hd : decode cc pc = .ok (.ior, 1)) (k : ∀ z : Int, iR z → iI a ||| iI b = iI z → W p l e R s m args below meth c H locs cells slots Q (F0 m (pc + 1) ls (.int (iI z) :: rest))) : W p l e R s m args below meth c H locs cells slots Q (F0 m pc ls (.int (iI b) :: .int (iI a) :: rest)) := by
  obtain ⟨z, h1, h2⟩ := iI_of (iI a ||| iI b)
  exact lv_ior hx hb hd (by rw [h2]; exact k z h1 h2)
theorem r_ixor (hx : p.tables.exec = Jvm.exec) (hb : c.code = cc) {a b : Int} (hd : decode cc pc = .ok (.ixor, 1)) (k : ∀ z : Int, iR z → iI a ^^^ iI b = iI z → W p l e R s m args below meth c H locs cells slots Q (F0 m (pc + 1) ls (.int (iI z) :: rest))) : W p l e R s m args below meth c H locs cells slots Q (F0 m pc ls (.int (iI b) :: .int (iI a) :: rest)) := by
  obtain ⟨z, h1, h2⟩ := iI_of (iI a ^^^ iI b)
  exact lv_ixor hx hb hd (by rw [h2]; exact k z h1 h2)
theorem r_ishl (hx : p.tables.exec = Jvm.exec) (hb : c.code = cc) {a b : Int} (hd : decode cc pc = .ok (.ishl, 1)) (k : ∀ z : Int, iR z → iI a <<< (iI b &&& 31) = iI z → W p l e R s m args below meth c H locs cells slots Q (F0 m (pc + 1) ls (.int (iI z) :: rest))) : W p l e R s m args below meth c H locs cells slots Q (F0 m pc ls (.int (iI b) :: .int (iI a) :: rest)) := by
  obtain ⟨z, h1, h2⟩ := iI_of (iI a <<< (iI b &&& 31))
  exact lv_ishl hx hb hd (by rw [h2]; exact k z h1 h2)
theorem r_ishr (hx : p.tables.exec = Jvm.exec) (hb : c.code = cc) {a b : Int} (hd : decode cc pc = .ok (.ishr, 1)) (k : ∀ z : Int, iR z → iI a >>> (iI b &&& 31) = iI z → W p l e R s m args below meth c H locs cells slots Q (F0 m (pc + 1) ls (.int (iI z) :: rest))) : W p l e R s m args below meth c H locs cells slots Q (F0 m pc ls (.int (iI b) :: .int (iI a) :: rest)) := by
  obtain ⟨z, h1, h2⟩ := iI_of (iI a >>> (iI b &&& 31))
  exact lv_ishr hx hb hd (by rw [h2]; exact k z h1 h2)
theorem r_iushr (hx : p.tables.exec = Jvm.exec) (hb : c.code = cc) {a b : Int} (hd : decode cc pc = .ok (.iushr, 1)) (k : ∀ z : Int, iR z → ((iI a).toUInt32 >>> ((iI b).toUInt32 &&& Int32.toUInt32 31)).toInt32 = iI z → W p l e R s m args below meth c H locs cells slots Q (F0 m (pc + 1) ls (.int (iI z) :: rest))) : W p l e R s m args below meth c H locs cells slots Q (F0 m pc ls (.int (iI b) :: .int (iI a) :: rest)) := by
  obtain ⟨z, h1, h2⟩ := iI_of (((iI a).toUInt32 >>> ((iI b).toUInt32 &&& Int32.toUInt32 31)).toInt32)
  exact lv_iushr hx hb hd h2 (k z h1 h2)
theorem r_idiv (hx : p.tables.exec = Jvm.exec) (hb : c.code = cc) {a b : Int} (hd : decode cc pc = .ok (.idiv, 1)) (hn : iR b) (hz : ¬ b = 0) (k : ∀ z : Int, iR z → iI a / iI b = iI z → W p l e R s m args below meth c H locs cells slots Q (F0 m (pc + 1) ls (.int (iI z) :: rest))) : W p l e R s m args below meth c H locs cells slots Q (F0 m pc ls (.int (iI b) :: .int (iI a) :: rest)) := by
  obtain ⟨z, h1, h2⟩ := iI_of (iI a / iI b)
  exact lv_idiv hx hb hd (iI_nz hn hz) (by rw [h2]; exact k z h1 h2)
theorem r_irem (hx : p.tables.exec = Jvm.exec) (hb : c.code = cc) {a b : Int} (hd : decode cc pc = .ok (.irem, 1)) (hn : iR b) (hz : ¬ b = 0) (k : ∀ z : Int, iR z → iI a - iI a / iI b * iI b = iI z → W p l e R s m args below meth c H locs cells slots Q (F0 m (pc + 1) ls (.int (iI z) :: rest))) : W p l e R s m args below meth c H locs cells slots Q (F0 m pc ls (.int (iI b) :: .int (iI a) :: rest)) := by
  obtain ⟨z, h1, h2⟩ := iI_of (iI a - iI a / iI b * iI b)
  exact lv_irem hx hb hd (iI_nz hn hz) (by rw [h2]; exact k z h1 h2)
theorem r_i2b (hx : p.tables.exec = Jvm.exec) (hb : c.code = cc) {a : Int} (hd : decode cc pc = .ok (.i2b, 1)) (k : ∀ z : Int, iR z → (iI a).toInt8.toInt32 = iI z → W p l e R s m args below meth c H locs cells slots Q (F0 m (pc + 1) ls (.int (iI z) :: rest))) : W p l e R s m args below meth c H locs cells slots Q (F0 m pc ls (.int (iI a) :: rest)) := by
  obtain ⟨z, h1, h2⟩ := iI_of ((iI a).toInt8.toInt32)
  exact lv_i2b hx hb hd h2 (k z h1 h2)
theorem r_i2s (hx : p.tables.exec = Jvm.exec) (hb : c.code = cc) {a : Int} (hd : decode cc pc = .ok (.i2s, 1)) (k : ∀ z : Int, iR z → (iI a).toInt16.toInt32 = iI z → W p l e R s m args below meth c H locs cells slots Q (F0 m (pc + 1) ls (.int (iI z) :: rest))) : W p l e R s m args below meth c H locs cells slots Q (F0 m pc ls (.int (iI a) :: rest)) := by
  obtain ⟨z, h1, h2⟩ := iI_of ((iI a).toInt16.toInt32)
  exact lv_i2s hx hb hd h2 (k z h1 h2)
theorem r_icmp_eq (hx : p.tables.exec = Jvm.exec) (hb : c.code = cc) {a b : Int} {off : Int} {tgt : Nat} (hd : decode cc pc = .ok (.if_icmp .eq off, 3)) (ht : (pc : Int) + off = (tgt : Int)) (har : iR a) (hbr : iR b) (kt : a = b → W p l e R s m args below meth c H locs cells slots Q (F0 m tgt ls rest)) (kf : ¬ (a = b) → W p l e R s m args below meth c H locs cells slots Q (F0 m (pc + 3) ls rest)) : W p l e R s m args below meth c H locs cells slots Q (F0 m pc ls (.int (iI b) :: .int (iI a) :: rest)) := lv_icmp_eq hx hb hd ht (fun h => kt ((iI_eq har hbr).mp h)) (fun h => kf (fun g => h ((iI_eq har hbr).mpr g)))
theorem r_if_eq (hx : p.tables.exec = Jvm.exec) (hb : c.code = cc) {a : Int} {off : Int} {tgt : Nat} (hd : decode cc pc = .ok (.ifCond .eq off, 3)) (ht : (pc : Int) + off = (tgt : Int)) (har : iR a) (kt : a = 0 → W p l e R s m args below meth c H locs cells slots Q (F0 m tgt ls rest)) (kf : ¬ (a = 0) → W p l e R s m args below meth c H locs cells slots Q (F0 m (pc + 3) ls rest)) : W p l e R s m args below meth c H locs cells slots Q (F0 m pc ls (.int (iI a) :: rest)) := lv_if_eq hx hb hd ht (fun h => kt ((iI_eq har (show iR 0 by decide)).mp h)) (fun h => kf (fun g => h ((iI_eq har (show iR 0 by decide)).mpr g)))
theorem r_icmp_ne (hx : p.tables.exec = Jvm.exec) (hb : c.code = cc) {a b : Int} {off : Int} {tgt : Nat} (hd : decode cc pc = .ok (.if_icmp .ne off, 3)) (ht : (pc : Int) + off = (tgt : Int)) (har : iR a) (hbr : iR b) (kt : ¬ a = b → W p l e R s m args below meth c H locs cells slots Q (F0 m tgt ls rest)) (kf : a = b → W p l e R s m args below meth c H locs cells slots Q (F0 m (pc + 3) ls rest)) : W p l e R s m args below meth c H locs cells slots Q (F0 m pc ls (.int (iI b) :: .int (iI a) :: rest)) := lv_icmp_ne hx hb hd ht (fun h => kt (fun g => h ((iI_eq har hbr).mpr g))) (fun h => kf ((iI_eq har hbr).mp h))
theorem r_if_ne (hx : p.tables.exec = Jvm.exec) (hb : c.code = cc) {a : Int} {off : Int} {tgt : Nat} (hd : decode cc pc = .ok (.ifCond .ne off, 3)) (ht : (pc : Int) + off = (tgt : Int)) (har : iR a) (kt : ¬ a = 0 → W p l e R s m args below meth c H locs cells slots Q (F0 m tgt ls rest)) (kf : a = 0 → W p l e R s m args below meth c H locs cells slots Q (F0 m (pc + 3) ls rest)) : W p l e R s m args below meth c H locs cells slots Q (F0 m pc ls (.int (iI a) :: rest)) := lv_if_ne hx hb hd ht (fun h => kt (fun g => h ((iI_eq har (show iR 0 by decide)).mpr g))) (fun h => kf ((iI_eq har (show iR 0 by decide)).mp h))
theorem r_icmp_lt (hx : p.tables.exec = Jvm.exec) (hb : c.code = cc) {a b : Int} {off : Int} {tgt : Nat} (hd : decode cc pc = .ok (.if_icmp .lt off, 3)) (ht : (pc : Int) + off = (tgt : Int)) (har : iR a) (hbr : iR b) (kt : a < b → W p l e R s m args below meth c H locs cells slots Q (F0 m tgt ls rest)) (kf : ¬ (a < b) → W p l e R s m args below meth c H locs cells slots Q (F0 m (pc + 3) ls rest)) : W p l e R s m args below meth c H locs cells slots Q (F0 m pc ls (.int (iI b) :: .int (iI a) :: rest)) := lv_icmp_lt hx hb hd ht (fun h => kt ((iI_lt har hbr).mp h)) (fun h => kf (fun g => h ((iI_lt har hbr).mpr g)))
theorem r_if_lt (hx : p.tables.exec = Jvm.exec) (hb : c.code = cc) {a : Int} {off : Int} {tgt : Nat} (hd : decode cc pc = .ok (.ifCond .lt off, 3)) (ht : (pc : Int) + off = (tgt : Int)) (har : iR a) (kt : a < 0 → W p l e R s m args below meth c H locs cells slots Q (F0 m tgt ls rest)) (kf : ¬ (a < 0) → W p l e R s m args below meth c H locs cells slots Q (F0 m (pc + 3) ls rest)) : W p l e R s m args below meth c H locs cells slots Q (F0 m pc ls (.int (iI a) :: rest)) := lv_if_lt hx hb hd ht (fun h => kt ((iI_lt har (show iR 0 by decide)).mp h)) (fun h => kf (fun g => h ((iI_lt har (show iR 0 by decide)).mpr g)))
theorem r_icmp_ge (hx : p.tables.exec = Jvm.exec) (hb : c.code = cc) {a b : Int} {off : Int} {tgt : Nat} (hd : decode cc pc = .ok (.if_icmp .ge off, 3)) (ht : (pc : Int) + off = (tgt : Int)) (har : iR a) (hbr : iR b) (kt : b ≤ a → W p l e R s m args below meth c H locs cells slots Q (F0 m tgt ls rest)) (kf : ¬ (b ≤ a) → W p l e R s m args below meth c H locs cells slots Q (F0 m (pc + 3) ls rest)) : W p l e R s m args below meth c H locs cells slots Q (F0 m pc ls (.int (iI b) :: .int (iI a) :: rest)) := lv_icmp_ge hx hb hd ht (fun h => kt ((iI_le hbr har).mp h)) (fun h => kf (fun g => h ((iI_le hbr har).mpr g)))
theorem r_if_ge (hx : p.tables.exec = Jvm.exec) (hb : c.code = cc) {a : Int} {off : Int} {tgt : Nat} (hd : decode cc pc = .ok (.ifCond .ge off, 3)) (ht : (pc : Int) + off = (tgt : Int)) (har : iR a) (kt : 0 ≤ a → W p l e R s m args below meth c H locs cells slots Q (F0 m tgt ls rest)) (kf : ¬ (0 ≤ a) → W p l e R s m args below meth c H locs cells slots Q (F0 m (pc + 3) ls rest)) : W p l e R s m args below meth c H locs cells slots Q (F0 m pc ls (.int (iI a) :: rest)) := lv_if_ge hx hb hd ht (fun h => kt ((iI_le (show iR 0 by decide) har).mp h)) (fun h => kf (fun g => h ((iI_le (show iR 0 by decide) har).mpr g)))
theorem r_icmp_gt (hx : p.tables.exec = Jvm.exec) (hb : c.code = cc) {a b : Int} {off : Int} {tgt : Nat} (hd : decode cc pc = .ok (.if_icmp .gt off, 3)) (ht : (pc : Int) + off = (tgt : Int)) (har : iR a) (hbr : iR b) (kt : b < a → W p l e R s m args below meth c H locs cells slots Q (F0 m tgt ls rest)) (kf : ¬ (b < a) → W p l e R s m args below meth c H locs cells slots Q (F0 m (pc + 3) ls rest)) : W p l e R s m args below meth c H locs cells slots Q (F0 m pc ls (.int (iI b) :: .int (iI a) :: rest)) := lv_icmp_gt hx hb hd ht (fun h => kt ((iI_lt hbr har).mp h)) (fun h => kf (fun g => h ((iI_lt hbr har).mpr g)))
theorem r_if_gt (hx : p.tables.exec = Jvm.exec) (hb : c.code = cc) {a : Int} {off : Int} {tgt : Nat} (hd : decode cc pc = .ok (.ifCond .gt off, 3)) (ht : (pc : Int) + off = (tgt : Int)) (har : iR a) (kt : 0 < a → W p l e R s m args below meth c H locs cells slots Q (F0 m tgt ls rest)) (kf : ¬ (0 < a) → W p l e R s m args below meth c H locs cells slots Q (F0 m (pc + 3) ls rest)) : W p l e R s m args below meth c H locs cells slots Q (F0 m pc ls (.int (iI a) :: rest)) := lv_if_gt hx hb hd ht (fun h => kt ((iI_lt (show iR 0 by decide) har).mp h)) (fun h => kf (fun g => h ((iI_lt (show iR 0 by decide) har).mpr g)))
theorem r_icmp_le (hx : p.tables.exec = Jvm.exec) (hb : c.code = cc) {a b : Int} {off : Int} {tgt : Nat} (hd : decode cc pc = .ok (.if_icmp .le off, 3)) (ht : (pc : Int) + off = (tgt : Int)) (har : iR a) (hbr : iR b) (kt : a ≤ b → W p l e R s m args below meth c H locs cells slots Q (F0 m tgt ls rest)) (kf : ¬ (a ≤ b) → W p l e R s m args below meth c H locs cells slots Q (F0 m (pc + 3) ls rest)) : W p l e R s m args below meth c H locs cells slots Q (F0 m pc ls (.int (iI b) :: .int (iI a) :: rest)) := lv_icmp_le hx hb hd ht (fun h => kt ((iI_le har hbr).mp h)) (fun h => kf (fun g => h ((iI_le har hbr).mpr g)))
theorem r_if_le (hx : p.tables.exec = Jvm.exec) (hb : c.code = cc) {a : Int} {off : Int} {tgt : Nat} (hd : decode cc pc = .ok (.ifCond .le off, 3)) (ht : (pc : Int) + off = (tgt : Int)) (har : iR a) (kt : a ≤ 0 → W p l e R s m args below meth c H locs cells slots Q (F0 m tgt ls rest)) (kf : ¬ (a ≤ 0) → W p l e R s m args below meth c H locs cells slots Q (F0 m (pc + 3) ls rest)) : W p l e R s m args below meth c H locs cells slots Q (F0 m pc ls (.int (iI a) :: rest)) := lv_if_le hx hb hd ht (fun h => kt ((iI_le har (show iR 0 by decide)).mp h)) (fun h => kf (fun g => h ((iI_le har (show iR 0 by decide)).mpr g)))
theorem r_iinc (hx : p.tables.exec = Jvm.exec) (hb : c.code = cc) {i nL k : Nat} {n x v : Int} {lv lv' : List (Nat × Value)} (hd : decode cc pc = .ok (.iinc i n, 3)) (h : lv_has ls nL lv) (hk : lv[k]? = some (i, .int (iI x))) (hv : x + n = v) (hn : i < nL) (hl : (i, Value.int (iI v)) :: lv.filter (fun q => !(q.1 == i) && !(q.1 + 1 == i && q.2.category == 2)) = lv')
    (kk : ∀ ls' : Array Slot, lv_has ls' nL lv' → W p l e R s m args below meth c H locs cells slots Q (F0 m (pc + 3) ls' rest)) : W p l e R s m args below meth c H locs cells slots Q (F0 m pc ls rest) := lv_iinc hx hb hd h hk (by rw [← hv]; exact iI_add x n) hn hl kk
theorem r_get (hx : p.tables.exec = Jvm.exec) (hb : c.code = cc) (hC : cx D τ s m args own) (hw : wS D A H0 ws H locs) {C : String} {T : u_T} {N ci index : Nat} (hin : ∀ w ∈ u_ws C T N, w ∈ lw_good) (hc : vwCl[ci]? = some (C, T, N)) (k : Nat) (hk : k < N) (hl : Cond.fieldLink own index C (T k).2.1 (T k).2.2.1 ∈ lw_good) (hsd : (T k).1 = C) (q0 : Nat) {fs : List Value} (he : ws[q0]? = some (a, .inr (ci, fs))) {v : Value} (hv : fs[k]? = some v) (hd : decode cc pc = .ok (.getfield index, 3)) (kk : W p l e R s m args below meth c H locs cells slots Q (F0 m (pc + 3) ls (v :: rest))) : W p l e R s m args below meth c H locs cells slots Q (F0 m pc ls (.ref a :: rest)) :=
  va_get hx hb hC.1 hin hC.2.1 hC.2.2.1 hw.1 q0 he hc k hk (hC.1 _ hl) (fun x h => by rw [hsd] at h; exact h) hv hd kk
theorem r_getN (hx : p.tables.exec = Jvm.exec) (hb : c.code = cc) (hC : cx D τ s m args own) (hw : wS D A H0 ws H locs) {C host : String} {T : u_T} {N ci index : Nat} (hin : ∀ w ∈ u_ws C T N, w ∈ lw_good) (hc : vwCl[ci]? = some (C, T, N)) (k : Nat) (hk : k < N) (hl : Cond.fieldLinkNest own index C (T k).2.1 (T k).2.2.1 host ∈ lw_nest) (hsd : (T k).1 = C) (q0 : Nat) {fs : List Value} (he : ws[q0]? = some (a, .inr (ci, fs))) {v : Value} (hv : fs[k]? = some v) (hd : decode cc pc = .ok (.getfield index, 3)) (kk : W p l e R s m args below meth c H locs cells slots Q (F0 m (pc + 3) ls (v :: rest))) : W p l e R s m args below meth c H locs cells slots Q (F0 m pc ls (.ref a :: rest)) :=
  va_getN hx hb hC.1 hin hC.2.1 hC.2.2.1 hw.1 q0 he hc k hk (va_Nw.use rfl (hC.2.2.2.1 _ hl)) (fun x h => by rw [hsd] at h; exact h) hv hd kk

theorem r_put (hx : p.tables.exec = Jvm.exec) (hb : c.code = cc) (hC : cx D τ s m args own) (hw : wS D A H0 ws H locs) {C : String} {T : u_T} {N ci index : Nat} (hin : ∀ w ∈ u_ws C T N, w ∈ lw_good) (ty0 : Nat → FieldType) (hty : ∀ k, k < N → parseFieldDescriptor (T k).2.2.1 = some (ty0 k)) (hnm : ∀ a, a < N → ∀ b, b < N → a ≠ b → (T a).2.1 ≠ (T b).2.1) (hc : vwCl[ci]? = some (C, T, N)) (k : Nat) (hk : k < N) (hl : Cond.fieldLink own index C (T k).2.1 (T k).2.2.1 ∈ lw_good) (hsd : (T k).1 = C) (hfin : (T k).2.2.2 = false) {ty : FieldType} {v : Value} (hpd : parseFieldDescriptor (T k).2.2.1 = some ty) (hnr : narrow ty v = v) (hfit : fits ty v = true) (q0 : Nat) {fs : List Value} {ws' : va_W} (he : ws[q0]? = some (a, .inr (ci, fs))) (hlen : k < fs.length) (hws : ws.set q0 (a, .inr (ci, fs.set k v)) = ws') (hd : decode cc pc = .ok (.putfield index, 3)) (kk : ∀ (H : Heap) (locs : List Loc), wS D A H0 ws' H locs → W p l e R s m args below meth c H locs cells slots Q (F0 m (pc + 3) ls rest)) : W p l e R s m args below meth c H locs cells slots Q (F0 m pc ls (v :: .ref a :: rest)) := by
  subst hws
  exact va_put hx hb hC.1 hin ty0 hty hnm hC.2.1 hC.2.2.1 hw.1 hw.2.1 hw.2.2 q0 he hc k hk (hC.1 _ hl) (fun x h => by rw [hsd] at h; exact h) hfin hpd hnr hfit hlen hd (fun H1 locs1 h1 h2 h3 => kk H1 locs1 ⟨h1, h2, h3⟩)
theorem r_putN (hx : p.tables.exec = Jvm.exec) (hb : c.code = cc) (hC : cx D τ s m args own) (hw : wS D A H0 ws H locs) {C host : String} {T : u_T} {N ci index : Nat} (hin : ∀ w ∈ u_ws C T N, w ∈ lw_good) (ty0 : Nat → FieldType) (hty : ∀ k, k < N → parseFieldDescriptor (T k).2.2.1 = some (ty0 k)) (hnm : ∀ a, a < N → ∀ b, b < N → a ≠ b → (T a).2.1 ≠ (T b).2.1) (hc : vwCl[ci]? = some (C, T, N)) (k : Nat) (hk : k < N) (hl : Cond.fieldLinkNest own index C (T k).2.1 (T k).2.2.1 host ∈ lw_nest) (hsd : (T k).1 = C) (hfin : (T k).2.2.2 = false) {ty : FieldType} {v : Value} (hpd : parseFieldDescriptor (T k).2.2.1 = some ty) (hnr : narrow ty v = v) (hfit : fits ty v = true) (q0 : Nat) {fs : List Value} {ws' : va_W} (he : ws[q0]? = some (a, .inr (ci, fs))) (hlen : k < fs.length) (hws : ws.set q0 (a, .inr (ci, fs.set k v)) = ws') (hd : decode cc pc = .ok (.putfield index, 3)) (kk : ∀ (H : Heap) (locs : List Loc), wS D A H0 ws' H locs → W p l e R s m args below meth c H locs cells slots Q (F0 m (pc + 3) ls rest)) : W p l e R s m args below meth c H locs cells slots Q (F0 m pc ls (v :: .ref a :: rest)) := by
  subst hws
  exact va_putN hx hb hC.1 hin ty0 hty hnm hC.2.1 hC.2.2.1 hw.1 hw.2.1 hw.2.2 q0 he hc k hk (va_Nw.use rfl (hC.2.2.2.1 _ hl)) (fun x h => by rw [hsd] at h; exact h) hfin hpd hnr hfit hlen hd (fun H1 locs1 h1 h2 h3 => kk H1 locs1 ⟨h1, h2, h3⟩)
theorem r_putF (hx : p.tables.exec = Jvm.exec) (hb : c.code = cc) (hC : cx D τ s m args own) (hw : wS D A H0 ws H locs) {C : String} (hoC : own = C) {T : u_T} {N ci index : Nat} (hin : ∀ w ∈ u_ws C T N, w ∈ lw_good) (ty0 : Nat → FieldType) (hty : ∀ k, k < N → parseFieldDescriptor (T k).2.2.1 = some (ty0 k)) (hnm : ∀ a, a < N → ∀ b, b < N → a ≠ b → (T a).2.1 ≠ (T b).2.1) (hc : vwCl[ci]? = some (C, T, N)) (k : Nat) (hk : k < N) (hl : Cond.fieldLink own index C (T k).2.1 (T k).2.2.1 ∈ lw_good) (hsd : (T k).1 = C) (hin2 : meth.name = "<init>") (hfin : (T k).2.2.2 = true) {ty : FieldType} {v : Value} (hpd : parseFieldDescriptor (T k).2.2.1 = some ty) (hnr : narrow ty v = v) (hfit : fits ty v = true) (q0 : Nat) {fs : List Value} {ws' : va_W} (he : ws[q0]? = some (a, .inr (ci, fs))) (hlen : k < fs.length) (hws : ws.set q0 (a, .inr (ci, fs.set k v)) = ws') (hd : decode cc pc = .ok (.putfield index, 3)) (kk : ∀ (H : Heap) (locs : List Loc), wS D A H0 ws' H locs → W p l e R s m args below meth c H locs cells slots Q (F0 m (pc + 3) ls rest)) : W p l e R s m args below meth c H locs cells slots Q (F0 m pc ls (v :: .ref a :: rest)) := by
  subst hws
  subst hoC
  exact va_putF hx hb hC.1 hin ty0 hty hnm hC.2.1 hC.2.2.1 hw.1 hw.2.1 hw.2.2 q0 he hc k hk (hC.1 _ hl) (fun x h => by rw [hsd] at h; exact h) hfin hin2 hsd hpd hnr hfit hlen hd (fun H1 locs1 h1 h2 h3 => kk H1 locs1 ⟨h1, h2, h3⟩)
theorem r_iald (hx : p.tables.exec = Jvm.exec) (hb : c.code = cc) (hC : cx D τ s m args own) (hw : wS D A H0 ws H locs) (q0 : Nat) {n : Nat} {g : Int → Int} {e2 : Int} (he : ws[q0]? = some (a, .inl (τ 0, n, .inl (ar g)))) (h0 : 0 ≤ e2) (h1 : e2 < (n : Int)) (hn : n ≤ 2147483647) (hd : decode cc pc = .ok (.iaload, 1)) (kk : W p l e R s m args below meth c H locs cells slots Q (F0 m (pc + 1) ls (.int (iI (g e2)) :: rest))) : W p l e R s m args below meth c H locs cells slots Q (F0 m pc ls (.int (iI e2) :: .ref a :: rest)) :=
  va_iald hx hb hC.2.2.1 hw.1 q0 0 he rfl (iI_in h0 h1 hn) hd (by rw [ar_get g h0 (by omega)]; exact kk)
theorem r_zald (hx : p.tables.exec = Jvm.exec) (hb : c.code = cc) (hC : cx D τ s m args own) (hw : wS D A H0 ws H locs) (q0 : Nat) {n : Nat} {g : Int → Int} {e2 : Int} (he : ws[q0]? = some (a, .inl (τ 2, n, .inl (ar g)))) (h0 : 0 ≤ e2) (h1 : e2 < (n : Int)) (hn : n ≤ 2147483647) (hd : decode cc pc = .ok (.baload, 1)) (kk : W p l e R s m args below meth c H locs cells slots Q (F0 m (pc + 1) ls (.int (iI (g e2)) :: rest))) : W p l e R s m args below meth c H locs cells slots Q (F0 m pc ls (.int (iI e2) :: .ref a :: rest)) :=
  va_zald hx hb hC.2.2.1 hw.1 q0 2 he rfl (iI_in h0 h1 hn) hd (by rw [ar_get g h0 (by omega)]; exact kk)
theorem r_lald (hx : p.tables.exec = Jvm.exec) (hb : c.code = cc) (hC : cx D τ s m args own) (hw : wS D A H0 ws H locs) (q0 : Nat) {n : Nat} {g : Int → Int} {e2 : Int} (he : ws[q0]? = some (a, .inl (τ 1, n, .inr (.inl (arL g))))) (h0 : 0 ≤ e2) (h1 : e2 < (n : Int)) (hn : n ≤ 2147483647) (hd : decode cc pc = .ok (.laload, 1)) (kk : W p l e R s m args below meth c H locs cells slots Q (F0 m (pc + 1) ls (.long (lI (g e2)) :: rest))) : W p l e R s m args below meth c H locs cells slots Q (F0 m pc ls (.int (iI e2) :: .ref a :: rest)) :=
  va_lald hx hb hC.2.2.1 hw.1 q0 1 he rfl (iI_in h0 h1 hn) hd (by rw [arL_get g h0 (by omega)]; exact kk)
theorem vz_nar {z : Int} (h : z = 0 ∨ z = 1) : vp_nar .boolean (iI z) = iI z := by rcases h with rfl | rfl <;> decide +kernel
theorem r_iast (hx : p.tables.exec = Jvm.exec) (hb : c.code = cc) (hC : cx D τ s m args own) (hw : wS D A H0 ws H locs) (q0 : Nat) {n : Nat} {g : Int → Int} {e2 x : Int} {ws' : va_W} (he : ws[q0]? = some (a, .inl (τ 0, n, .inl (ar g)))) (h0 : 0 ≤ e2) (h1 : e2 < (n : Int)) (hn : n ≤ 2147483647) (hws : ws.set q0 (a, .inl (τ 0, n, .inl (ar (up g e2 x)))) = ws') (hd : decode cc pc = .ok (.iastore, 1)) (kk : ∀ (H : Heap) (locs : List Loc), wS D A H0 ws' H locs → W p l e R s m args below meth c H locs cells slots Q (F0 m (pc + 1) ls rest)) : W p l e R s m args below meth c H locs cells slots Q (F0 m pc ls (.int (iI x) :: .int (iI e2) :: .ref a :: rest)) := by
  subst hws
  refine va_iast hx hb hC.2.2.1 hw.1 hw.2.1 hw.2.2 q0 0 he rfl (iI_in h0 h1 hn) hd (fun H1 locs1 h1 h2 h3 => ?_)
  rw [ar_set g h0 (by omega)] at h1 h2
  exact kk H1 locs1 ⟨h1, h2, h3⟩
theorem r_zast (hx : p.tables.exec = Jvm.exec) (hb : c.code = cc) (hC : cx D τ s m args own) (hw : wS D A H0 ws H locs) (q0 : Nat) {n : Nat} {g : Int → Int} {e2 x : Int} {ws' : va_W} (he : ws[q0]? = some (a, .inl (τ 2, n, .inl (ar g)))) (h0 : 0 ≤ e2) (h1 : e2 < (n : Int)) (hn : n ≤ 2147483647) (hx01 : x = 0 ∨ x = 1) (hws : ws.set q0 (a, .inl (τ 2, n, .inl (ar (up g e2 x)))) = ws') (hd : decode cc pc = .ok (.bastore, 1)) (kk : ∀ (H : Heap) (locs : List Loc), wS D A H0 ws' H locs → W p l e R s m args below meth c H locs cells slots Q (F0 m (pc + 1) ls rest)) : W p l e R s m args below meth c H locs cells slots Q (F0 m pc ls (.int (iI x) :: .int (iI e2) :: .ref a :: rest)) := by
  subst hws
  refine va_zast hx hb hC.2.2.1 hw.1 hw.2.1 hw.2.2 q0 2 he rfl (iI_in h0 h1 hn) hd (fun H1 locs1 h1 h2 h3 => ?_)
  rw [vz_nar hx01] at h1 h2; rw [ar_set g h0 (by omega)] at h1 h2
  exact kk H1 locs1 ⟨h1, h2, h3⟩
theorem r_last (hx : p.tables.exec = Jvm.exec) (hb : c.code = cc) (hC : cx D τ s m args own) (hw : wS D A H0 ws H locs) (q0 : Nat) {n : Nat} {g : Int → Int} {e2 x : Int} {ws' : va_W} (he : ws[q0]? = some (a, .inl (τ 1, n, .inr (.inl (arL g))))) (h0 : 0 ≤ e2) (h1 : e2 < (n : Int)) (hn : n ≤ 2147483647) (hws : ws.set q0 (a, .inl (τ 1, n, .inr (.inl (arL (up g e2 x))))) = ws') (hd : decode cc pc = .ok (.lastore, 1)) (kk : ∀ (H : Heap) (locs : List Loc), wS D A H0 ws' H locs → W p l e R s m args below meth c H locs cells slots Q (F0 m (pc + 1) ls rest)) : W p l e R s m args below meth c H locs cells slots Q (F0 m pc ls (.long (lI x) :: .int (iI e2) :: .ref a :: rest)) := by
  subst hws
  refine va_last hx hb hC.2.2.1 hw.1 hw.2.1 hw.2.2 q0 1 he rfl (iI_in h0 h1 hn) hd (fun H1 locs1 h1 h2 h3 => ?_)
  rw [arL_set g h0 (by omega)] at h1 h2
  exact kk H1 locs1 ⟨h1, h2, h3⟩
end RW
end
section
/-! CALLS, returns, new objects and arrays, in the words of the base. -/
theorem P_pick {D : va_G} {cl : List vw_C} {ws wc : va_W} {H : Heap} {is : List Nat} (hP : va_P D cl ws H) (hC : is.map (fun i => ws[i]?) = wc.map some) : va_P D cl wc H := fun k q hq => by
  have h1 : (is.map (fun i => ws[i]?))[k]? = some (some q) := by rw [hC, List.getElem?_map, hq]; rfl
  rw [List.getElem?_map] at h1
  cases hi : is[k]? with
  | none => rw [hi] at h1; cases h1
  | some i => rw [hi] at h1; exact hP i q (Option.some.inj h1)
theorem wS.pick {D : va_G} {A : Nat → Prop} {H0 H : Heap} {ws wc : va_W} {locs : List Loc} (hw : wS D A H0 ws H locs) (is : List Nat) (hn : va_nd is = true) (hC : is.map (fun i => ws[i]?) = wc.map some) : wS D A H0 wc H locs := ⟨P_pick hw.1 hC, hw.2.1.sub is hn hC, hw.2.2⟩
def KB (y : MethodName) (b : ByteArray) (mL : Nat) (ret : Option FieldType) (n : Nat) : Prop := Cond.initialized y.cls ∈ lw_good ∧ Cond.code y b mL ret ∈ lw_good ∧ (y.cls ≠ "java/lang/invoke/MethodHandle" ∧ y.cls ≠ "java/lang/invoke/VarHandle" ∧ (parseMethodDescriptor y.desc).map (fun d => d.parameters.length) = some n)
def KV (y : MethodName) (b : ByteArray) (mL : Nat) (ret : Option FieldType) (n : Nat) : Prop := (Cond.instanceMethod y ∈ lw_good ∧ Cond.selects y.cls y y ∈ lw_good) ∧ KB y b mL ret n
def KS (y : MethodName) (b : ByteArray) (mL : Nat) (ret : Option FieldType) (n : Nat) : Prop := Cond.static y ∈ lw_good ∧ KB y b mL ret n
def KI (y : MethodName) (b : ByteArray) (mL : Nat) (ret : Option FieldType) (n : Nat) : Prop := (y.name = "<init>" ∧ Cond.instanceMethod y ∈ lw_good) ∧ KB y b mL ret n
theorem KB.ws {y : MethodName} {b : ByteArray} {mL : Nat} {ret : Option FieldType} {n : Nat} (K : KB y b mL ret n) : ∀ w ∈ lw_w y b mL ret, w ∈ lw_good := fun w h => by
  rcases List.mem_cons.mp h with h | h
  · rw [h]; exact K.2.1
  · exact h
theorem mem1 {P : Cond → Prop} {a : Cond} {l : List Cond} (h : P a) (hl : ∀ w ∈ l, P w) : ∀ w ∈ a :: l, P w := fun w hw => by
  rcases List.mem_cons.mp hw with h1 | h1
  · rw [h1]; exact h
  · exact hl w h1
theorem g_wsV {own : String} {idx : Nat} {y : MethodName} {b : ByteArray} {mL : Nat} {ret : Option FieldType} {n : Nat} (K : KV y b mL ret n) (h : Cond.methodLink own idx y ∈ lw_good) : GoodIn lw_good (wsV own idx y.cls y (lw_w y b mL ret)) :=
  g_good (fun _ h => h) (by unfold wsV; exact mem1 h (mem1 K.1.1 (mem1 K.1.2 (mem1 K.2.1 K.2.ws))))
theorem g_wsS {own : String} {idx : Nat} {y : MethodName} {b : ByteArray} {mL : Nat} {ret : Option FieldType} {n : Nat} (K : KS y b mL ret n) (h : Cond.methodLink own idx y ∈ lw_good) : GoodIn lw_good (va_wsS own idx y (lw_w y b mL ret)) :=
  g_good (fun _ h => h) (by unfold va_wsS; exact mem1 h (mem1 K.1 (mem1 K.2.1 K.2.ws)))
theorem K_same {D : va_G} {cl : List vw_C} {tys : List (ClassId × FieldType)} {cA cB : ClassId} {k : Nat} {ty : FieldType} {U : State} (hK : va_K D cl (tys ++ [(cA, ty)]) U) (h : tys[k]? = some (cB, ty)) : cA = cB := by
  have hl : k < tys.length := (List.getElem?_eq_some_iff.mp h).1
  have h1 := (hK.2 k (cB, ty) (by rw [List.getElem?_append_left hl]; exact h)).2
  have h2 := (hK.2 tys.length (cA, ty) (by rw [List.getElem?_append_right (Nat.le_refl _)]; simp)).2
  unfold va_RA at h1 h2
  cases ty with
  | object C =>
    obtain ⟨_, _, -, -, -, q1⟩ := h1
    obtain ⟨_, _, -, -, -, q2⟩ := h2
    exact Option.some.inj (q2.symm.trans q1)
  | _ => exact Option.some.inj (h2.symm.trans h1)
section RC
variable {p : Program} {l : Launch} {e : Env} {R : Room} {s : State} {m : MethodId} {args : Array Value} {below : List Frame} {meth : Method} {c : Code} {H : Heap} {locs : List Loc} {cells slots : Nat} {Q : State → Prop}
variable {cc : ByteArray} {pc : Nat} {ls : Array Slot} {rest st0 : List Value} {D : va_G} {A : Nat → Prop} {a : Nat} {ws wc wr : va_W} {H0 : Heap} {τ : Nat → ClassId} {own : String}
variable {y : MethodName} {b : ByteArray} {mL n lev mc ms index nL cells' slots' : Nat} {ret : Option FieldType} {As : List Value}
/-- behind a call: the rest of the world, and what came back -/
theorem g_behind {E : va_W → Prop} {t : State} {H1 : Heap} {locs1 : List Loc} {isC isR : List Nat} (hw : wS D A H0 ws H locs) (hA : ∀ q, H0.size ≤ q → A q) (hC : isC.map (fun i => ws[i]?) = wc.map some) (hR : isR.map (fun i => ws[i]?) = wr.map some) (hn : va_nd isR = true) (hdis : ∀ i ∈ isR, i ∉ isC) (ht : t.heap = H1) (hk : ∀ q : Nat, q < H.size → ¬ va_A wc H.size q → H1[q]? = H[q]?) (hS : va_S A H0 H1 locs1) (hB : gW D (va_A wc H.size) E t) : ∃ w1 : va_W, E w1 ∧ wS D A H0 (wr ++ w1) H1 locs1 := by
  obtain ⟨w1, hE, hP1, hD1⟩ := hB
  rw [ht] at hP1
  obtain ⟨h1, h2⟩ := va_join hw.1 hw.2.1 isC isR hC hR hn hdis hk (va_free hw.2.1 hw.2.2 hA isC hC) hP1 hD1
  exact ⟨w1, hE, h1, h2, hS⟩
theorem g_pre {isC : List Nat} (hC' : cx D τ s m args own) (hw : wS D A H0 ws H locs) (hC : isC.map (fun i => ws[i]?) = wc.map some) (hn : va_nd isC = true) {Bs : List Value} : ∀ U : State, U.heap = H → s.WarmedH U.vm → gPc D τ wc H.size Bs Bs.toArray U := fun U hU hW => ⟨rfl, by rw [hU], by rw [hU]; exact P_pick hw.1 hC, ⟨va_K.moved hW.alike hC'.2.2.1, NX.warm hW hC'.2.2.2⟩, (hw.2.1.sub isC hn hC).weaken (fun _ _ _ _ => trivial)⟩

theorem g_cIv (hx : p.tables.exec = Jvm.exec) (hb : c.code = cc) (hml : c.maxLocals = nL) (hC : cx D τ s m args own) (hA : ∀ q, H0.size ≤ q → A q) (hw : wS D A H0 ws H locs) (hl : ls.size = nL) {E : va_W → Prop} (M : Met l y (lw_w y b mL none) (rmk lev mc ms) (gPc D τ wc H.size (.ref a :: As)) (gQv D E (va_A wc H.size)) mc ms (va_A wc H.size)) (K : KI y b mL none n) (hlk : Cond.methodLink own index y ∈ lw_good) (isC isR : List Nat) (hCm : isC.map (fun i => ws[i]?) = wc.map some) (hRm : isR.map (fun i => ws[i]?) = wr.map some) (hnC : va_nd isC = true) (hnR : va_nd isR = true) (hdis : ∀ i ∈ isR, i ∉ isC) (hst : st0 = As.reverse ++ .ref a :: rest) (hn : As.length = n) (hcat : (rest.map fun v => v.category).sum ≤ 8) (hroom : lev + 1 ≤ R.frames ∧ 8 + (mL + 11) + 64 * lev ≤ R.locals) (hcs : cells + mc ≤ R.cells ∧ slots + ms ≤ R.slots) (hc2 : cells + mc = cells') (hs2 : slots + ms = slots') (hd : decode cc pc = .ok (.invokespecial index, 3))
    (kk : ∀ (w1 : va_W) (H : Heap) (locs : List Loc), E w1 → wS D A H0 (wr ++ w1) H locs → W p l e R s m args below meth c H locs cells' slots' Q (F0 m (pc + 3) ls rest)) : W p l e R s m args below meth c H locs cells slots Q (F0 m pc ls st0) := by
  have hF := va_free hw.2.1 hw.2.2 hA isC hCm
  refine va_callv (va_runI ⟨hx, hb, hml, hC.2.1, hC.1⟩ M (cwI n hC.1 (g_good (fun _ h => h) K.2.ws) rfl rfl rfl (hC.1 _ K.2.1) (hC.1 _ hlk) (hC.1 _ K.1.2) K.1.1 K.2.2.2 hroom) ⟨gPc_blind, g_pre hC hw hCm hnC⟩ rfl hn hl hst (lv_room hcat) hd hcs) hw.2.2 (fun q _ h => hF q h) hF (fun u t H1 locs1 ht hvm hp hB hsz hk1 hS => ?_)
  obtain ⟨w1, hE, h1⟩ := g_behind hw hA hCm hRm hnR hdis ht hk1 hS hB
  subst hc2
  subst hs2
  exact kk w1 H1 locs1 hE h1
theorem g_cINv (hx : p.tables.exec = Jvm.exec) (hb : c.code = cc) (hml : c.maxLocals = nL) (hC : cx D τ s m args own) (hA : ∀ q, H0.size ≤ q → A q) (hw : wS D A H0 ws H locs) (hl : ls.size = nL) {E : va_W → Prop} {host : String} (M : Met l y (lw_w y b mL none) (rmk lev mc ms) (gPc D τ wc H.size (.ref a :: As)) (gQv D E (va_A wc H.size)) mc ms (va_A wc H.size)) (K : KI y b mL none n) (hlk : Cond.methodLinkNest own index y host ∈ lw_nest) (isC isR : List Nat) (hCm : isC.map (fun i => ws[i]?) = wc.map some) (hRm : isR.map (fun i => ws[i]?) = wr.map some) (hnC : va_nd isC = true) (hnR : va_nd isR = true) (hdis : ∀ i ∈ isR, i ∉ isC) (hst : st0 = As.reverse ++ .ref a :: rest) (hn : As.length = n) (hcat : (rest.map fun v => v.category).sum ≤ 8) (hroom : lev + 1 ≤ R.frames ∧ 8 + (mL + 11) + 64 * lev ≤ R.locals) (hcs : cells + mc ≤ R.cells ∧ slots + ms ≤ R.slots) (hc2 : cells + mc = cells') (hs2 : slots + ms = slots') (hd : decode cc pc = .ok (.invokespecial index, 3))
    (kk : ∀ (w1 : va_W) (H : Heap) (locs : List Loc), E w1 → wS D A H0 (wr ++ w1) H locs → W p l e R s m args below meth c H locs cells' slots' Q (F0 m (pc + 3) ls rest)) : W p l e R s m args below meth c H locs cells slots Q (F0 m pc ls st0) := by
  have hF := va_free hw.2.1 hw.2.2 hA isC hCm
  refine va_callv (va_runIN ⟨hx, hb, hml, hC.2.1, hC.1⟩ M ⟨va_cnB n hC.1 (g_good (fun _ h => h) K.2.ws) rfl rfl rfl (hC.2.2.2.1 _ hlk) (hC.1 _ K.2.1) K.2.2.2 hroom, K.1.1, hC.1 _ K.1.2⟩ ⟨gPc_blind, g_pre hC hw hCm hnC⟩ rfl hn hl hst (lv_room hcat) hd hcs) hw.2.2 (fun q _ h => hF q h) hF (fun u t H1 locs1 ht hvm hp hB hsz hk1 hS => ?_)
  obtain ⟨w1, hE, h1⟩ := g_behind hw hA hCm hRm hnR hdis ht hk1 hS hB
  subst hc2
  subst hs2
  exact kk w1 H1 locs1 hE h1
theorem r_iret (hx : p.tables.exec = Jvm.exec) (hb : c.code = cc) (hr : meth.sig.returnType = some .int) (hlk : meth.locks = false) (hw : wS D A s.heap ws H locs) {E : Int → va_W → Prop} (w1 : va_W) (is : List Nat) (hpick : is.map (fun i => ws[i]?) = w1.map some) (hnd : va_nd is = true) {z : Int} (hz : iR z) (hE : E z w1) (hd : decode cc pc = .ok (.ireturn, 1)) : W p l e R s m args below meth c H locs cells slots (MQ below (gQi D E A) args s cells slots A) (F0 m pc ls [.int (iI z)]) :=
  W.iret hx hb hr (fun t ht hW => ⟨⟨iI z, iI z, rfl, rfl, z, hz, rfl, w1, hE, by rw [ht]; exact P_pick hw.1 hpick, hw.2.1.sub is hnd hpick⟩, hw.2.2.F ht⟩) hw.2.2.2.2 hd hlk
theorem r_zret (hx : p.tables.exec = Jvm.exec) (hb : c.code = cc) (hr : meth.sig.returnType = some .boolean) (hlk : meth.locks = false) (hw : wS D A s.heap ws H locs) {E : Int → va_W → Prop} (w1 : va_W) (is : List Nat) (hpick : is.map (fun i => ws[i]?) = w1.map some) (hnd : va_nd is = true) {z : Int} (hz : iR z) (h01 : z = 0 ∨ z = 1) (hE : E z w1) (hd : decode cc pc = .ok (.ireturn, 1)) : W p l e R s m args below meth c H locs cells slots (MQ below (gQi D E A) args s cells slots A) (F0 m pc ls [.int (iI z)]) :=
  W.zret hx hb hr (by rcases h01 with rfl | rfl <;> rfl) (fun t ht hW => ⟨⟨iI z, iI z, rfl, rfl, z, hz, rfl, w1, hE, by rw [ht]; exact P_pick hw.1 hpick, hw.2.1.sub is hnd hpick⟩, hw.2.2.F ht⟩) hw.2.2.2.2 hd hlk
theorem r_lret (hx : p.tables.exec = Jvm.exec) (hb : c.code = cc) (hr : meth.sig.returnType = some .long) (hlk : meth.locks = false) (hw : wS D A s.heap ws H locs) {E : Int → va_W → Prop} (w1 : va_W) (is : List Nat) (hpick : is.map (fun i => ws[i]?) = w1.map some) (hnd : va_nd is = true) {z : Int} (hz : lR z) (hE : E z w1) (hd : decode cc pc = .ok (.lreturn, 1)) : W p l e R s m args below meth c H locs cells slots (MQ below (gQl D E A) args s cells slots A) (F0 m pc ls [.long (lI z)]) :=
  W.lret hx hb hr (fun t ht hW => ⟨⟨lI z, lI z, rfl, rfl, z, hz, rfl, w1, hE, by rw [ht]; exact P_pick hw.1 hpick, hw.2.1.sub is hnd hpick⟩, hw.2.2.F ht⟩) hw.2.2.2.2 hd hlk
theorem r_vret (hx : p.tables.exec = Jvm.exec) (hb : c.code = cc) (hr : meth.sig.returnType = none) (hlk : meth.locks = false) (hw : wS D A s.heap ws H locs) {E : va_W → Prop} (w1 : va_W) (is : List Nat) (hpick : is.map (fun i => ws[i]?) = w1.map some) (hnd : va_nd is = true) (hE : E w1) (hd : decode cc pc = .ok (.return_, 1)) : W p l e R s m args below meth c H locs cells slots (MQ below (gQv D E A) args s cells slots A) (F0 m pc ls []) :=
  W.vret hx hb hr (fun t ht hW => ⟨⟨(), rfl, trivial, w1, hE, by rw [ht]; exact P_pick hw.1 hpick, hw.2.1.sub is hnd hpick⟩, hw.2.2.F ht⟩) hw.2.2.2.2 hd hlk
theorem r_objInit (hx : p.tables.exec = Jvm.exec) (hb : c.code = cc) (hml : c.maxLocals = nL) (hC : cx D τ s m args own) (hl : ls.size = nL) (h1 : Cond.methodLink own index objectInit ∈ lw_good) (h2 : Cond.instanceMethod objectInit ∈ lw_good) (h3 : Cond.code objectInit ⟨#[0xb1]⟩ 1 none ∈ lw_good) (hfr : 1 ≤ R.frames) (hcat : (rest.map fun v => v.category).sum ≤ 8) (hlo : 20 ≤ R.locals) (hd : decode cc pc = .ok (.invokespecial index, 3)) (kk : W p l e R s m args below meth c H locs cells slots Q (F0 m (pc + 3) ls rest)) : W p l e R s m args below meth c H locs cells slots Q (F0 m pc ls (.ref a :: rest)) :=
  W.objInit hx hb hC.2.1 (hC.1 _ h1) (hC.1 _ h2) (hC.1 _ h3) rfl (hl.trans hml.symm) rfl hd hfr (by have := lv_room (m := m) (pc := pc) (ls := ls) (rest := rest) hcat; simp only [F0] at this ⊢; omega) kk
theorem r_new (hx : p.tables.exec = Jvm.exec) (hb : c.code = cc) (hC : cx D τ s m args own) (hA : ∀ q, H0.size ≤ q → A q) (hw : wS D A H0 ws H locs) {C : String} {T : u_T} {N ci : Nat} (hin : ∀ w ∈ u_ws C T N, w ∈ lw_good) (ty0 : Nat → FieldType) (hty : ∀ k, k < N → parseFieldDescriptor (T k).2.2.1 = some (ty0 k)) (hc : vwCl[ci]? = some (C, T, N)) (h1 : Cond.classLink own index C ∈ lw_good) (h2 : Cond.instantiable C N ∈ lw_good) (h3 : Cond.initialized C ∈ lw_good) {fs : List Value} (hfs : ∀ j, j < N → defaultValue (ty0 j) = vp_V fs j) (hcells : cells + 1 ≤ R.cells) (hslots : slots + N ≤ R.slots) (hc2 : cells + 1 = cells') (hs2 : slots + N = slots') (hd : decode cc pc = .ok (.new index, 3))
    (kk : ∀ (q : Nat) (H : Heap), wS D A H0 (ws ++ [(q, .inr (ci, fs))]) H locs → W p l e R s m args below meth c H locs cells' slots' Q (F0 m (pc + 3) ls (.ref q :: rest))) : W p l e R s m args below meth c H locs cells slots Q (F0 m pc ls rest) := by
  subst hc2
  subst hs2
  exact va_new hx hb hC.1 hin ty0 hty hC.2.1 (hC.1 _ h1) (hC.1 _ h2) (hC.1 _ h3) hC.2.2.1 hw.1 hw.2.1 hw.2.2 hA hc hfs hcells hslots hd (fun q H1 g1 g2 g3 => kk q H1 ⟨g1, g2, g3⟩)
theorem r_newi (hx : p.tables.exec = Jvm.exec) (hb : c.code = cc) (hC : cx D τ s m args own) (hA : ∀ q, H0.size ≤ q → A q) (hw : wS D A H0 ws H locs) (hw1 : Cond.arrayClass .int ∈ lw_good) {z : Int} {N : Nat} (hz : z = (N : Int)) (hN : N ≤ 100000) (hcells : cells + 1 ≤ R.cells) (hslots : slots + N ≤ R.slots) (hc2 : cells + 1 = cells') (hs2 : slots + N = slots') (hd : decode cc pc = .ok (.newarray .int, 2))
    (kk : ∀ (q : Nat) (H : Heap), wS D A H0 (ws ++ [(q, .inl (τ 0, N, .inl (ar (fun _ => 0))))]) H locs → W p l e R s m args below meth c H locs cells' slots' Q (F0 m (pc + 2) ls (.ref q :: rest))) : W p l e R s m args below meth c H locs cells slots Q (F0 m pc ls (.int (iI z) :: rest)) := by
  subst hc2
  subst hs2
  subst hz
  refine va_newa (atype := .int) hx hb (hC.1 _ hw1) rfl hC.2.2.1 hw.1 hw.2.1 hw.2.2 hA (a0 := (N, .inl (ar (fun _ => 0)))) (fun cA => rfl) (iI_nn ⟨by omega, by omega⟩ (by omega)) (by rw [iI_clamp ⟨by omega, by omega⟩]; exact Int.toNat_natCast N) (by show N * 4 ≤ _; omega) hcells hslots hd (fun q cA H1 g0 g1 g2 g3 => ?_)
  have hA1 : cA = τ 0 := K_same g0 (k := 0) rfl
  subst hA1
  exact kk q H1 ⟨g1, g2, g3⟩
theorem r_newl (hx : p.tables.exec = Jvm.exec) (hb : c.code = cc) (hC : cx D τ s m args own) (hA : ∀ q, H0.size ≤ q → A q) (hw : wS D A H0 ws H locs) (hw1 : Cond.arrayClass .long ∈ lw_good) {z : Int} {N : Nat} (hz : z = (N : Int)) (hN : N ≤ 100000) (hcells : cells + 1 ≤ R.cells) (hslots : slots + N ≤ R.slots) (hc2 : cells + 1 = cells') (hs2 : slots + N = slots') (hd : decode cc pc = .ok (.newarray .long, 2))
    (kk : ∀ (q : Nat) (H : Heap), wS D A H0 (ws ++ [(q, .inl (τ 1, N, .inr (.inl (arL (fun _ => 0)))))]) H locs → W p l e R s m args below meth c H locs cells' slots' Q (F0 m (pc + 2) ls (.ref q :: rest))) : W p l e R s m args below meth c H locs cells slots Q (F0 m pc ls (.int (iI z) :: rest)) := by
  subst hc2
  subst hs2
  subst hz
  refine va_newa (atype := .long) hx hb (hC.1 _ hw1) rfl hC.2.2.1 hw.1 hw.2.1 hw.2.2 hA (a0 := (N, .inr (.inl (arL (fun _ => 0))))) (fun cA => rfl) (iI_nn ⟨by omega, by omega⟩ (by omega)) (by rw [iI_clamp ⟨by omega, by omega⟩]; exact Int.toNat_natCast N) (by show N * 8 ≤ _; omega) hcells hslots hd (fun q cA H1 g0 g1 g2 g3 => ?_)
  have hA1 : cA = τ 1 := K_same g0 (k := 1) rfl
  subst hA1
  exact kk q H1 ⟨g1, g2, g3⟩
theorem r_newz (hx : p.tables.exec = Jvm.exec) (hb : c.code = cc) (hC : cx D τ s m args own) (hA : ∀ q, H0.size ≤ q → A q) (hw : wS D A H0 ws H locs) (hw1 : Cond.arrayClass .boolean ∈ lw_good) {z : Int} {N : Nat} (hz : z = (N : Int)) (hN : N ≤ 100000) (hcells : cells + 1 ≤ R.cells) (hslots : slots + N ≤ R.slots) (hc2 : cells + 1 = cells') (hs2 : slots + N = slots') (hd : decode cc pc = .ok (.newarray .boolean, 2))
    (kk : ∀ (q : Nat) (H : Heap), wS D A H0 (ws ++ [(q, .inl (τ 2, N, .inl (ar (fun _ => 0))))]) H locs → W p l e R s m args below meth c H locs cells' slots' Q (F0 m (pc + 2) ls (.ref q :: rest))) : W p l e R s m args below meth c H locs cells slots Q (F0 m pc ls (.int (iI z) :: rest)) := by
  subst hc2
  subst hs2
  subst hz
  refine va_newa (atype := .boolean) hx hb (hC.1 _ hw1) rfl hC.2.2.1 hw.1 hw.2.1 hw.2.2 hA (a0 := (N, .inl (ar (fun _ => 0)))) (fun cA => rfl) (iI_nn ⟨by omega, by omega⟩ (by omega)) (by rw [iI_clamp ⟨by omega, by omega⟩]; exact Int.toNat_natCast N) (by show N * 1 ≤ _; omega) hcells hslots hd (fun q cA H1 g0 g1 g2 g3 => ?_)
  have hA1 : cA = τ 2 := K_same g0 (k := 2) rfl
  subst hA1
  exact kk q H1 ⟨g1, g2, g3⟩
theorem r_mmax (hx : p.tables.exec = Jvm.exec) (hb : c.code = cc) (hml : c.maxLocals = nL) (hC : cx D τ s m args own) (hl : ls.size = nL) (h1 : Cond.methodLink own index Lib.Math.max.name ∈ lw_good) (h2 : Cond.static Lib.Math.max.name ∈ lw_good) (h3 : Cond.initialized "java/lang/Math" ∈ lw_good) (h4 : Cond.code Lib.Math.max.name Lib.Math.max.code 2 (some .int) ∈ lw_good) (hfr : 1 ≤ R.frames) (hlo : (rest.map fun v => v.category).sum + 13 ≤ R.locals) (hcs : cells ≤ R.cells) (hss : slots ≤ R.slots) {x y : Int} (hrx : iR x) (hry : iR y) (hd : decode cc pc = .ok (.invokestatic index, 3)) (kk : ∀ z : Int, z = max x y → W p l e R s m args below meth c H locs cells slots Q (F0 m (pc + 3) ls (.int (iI z) :: rest))) : W p l e R s m args below meth c H locs cells slots Q (F0 m pc ls (.int (iI y) :: .int (iI x) :: rest)) := by
  refine va_mmax hx hb (hml.trans hl.symm) hC.2.1 (hC.1 _ h1) (hC.1 _ h2) (hC.1 _ h3) (hC.1 _ h4) hfr hlo hcs hss hd ?_
  have h9 := kk _ rfl
  by_cases q : x < y
  · rw [if_pos ((iI_lt hrx hry).mpr q)]
    rwa [show max x y = y by omega] at h9
  · rw [if_neg (fun g => q ((iI_lt hrx hry).mp g))]
    rwa [show max x y = x by omega] at h9
theorem r_mmin (hx : p.tables.exec = Jvm.exec) (hb : c.code = cc) (hml : c.maxLocals = nL) (hC : cx D τ s m args own) (hl : ls.size = nL) (h1 : Cond.methodLink own index Lib.Math.min.name ∈ lw_good) (h2 : Cond.static Lib.Math.min.name ∈ lw_good) (h3 : Cond.initialized "java/lang/Math" ∈ lw_good) (h4 : Cond.code Lib.Math.min.name Lib.Math.min.code 2 (some .int) ∈ lw_good) (hfr : 1 ≤ R.frames) (hlo : (rest.map fun v => v.category).sum + 13 ≤ R.locals) (hcs : cells ≤ R.cells) (hss : slots ≤ R.slots) {x y : Int} (hrx : iR x) (hry : iR y) (hd : decode cc pc = .ok (.invokestatic index, 3)) (kk : ∀ z : Int, z = min x y → W p l e R s m args below meth c H locs cells slots Q (F0 m (pc + 3) ls (.int (iI z) :: rest))) : W p l e R s m args below meth c H locs cells slots Q (F0 m pc ls (.int (iI y) :: .int (iI x) :: rest)) := by
  refine va_mmin hx hb (hml.trans hl.symm) hC.2.1 (hC.1 _ h1) (hC.1 _ h2) (hC.1 _ h3) (hC.1 _ h4) hfr hlo hcs hss hd ?_
  have h9 := kk _ rfl
  by_cases q : y < x
  · rw [if_pos ((iI_lt hry hrx).mpr q)]
    rwa [show min x y = y by omega] at h9
  · rw [if_neg (fun g => q ((iI_lt hry hrx).mp g))]
    rwa [show min x y = x by omega] at h9
end RC
end
section
theorem nh_RX11 : RX11 ≠ "java/lang/invoke/MethodHandle" ∧ RX11 ≠ "java/lang/invoke/VarHandle" := by decide +kernel
theorem nh_RX9 : RX9 ≠ "java/lang/invoke/MethodHandle" ∧ RX9 ≠ "java/lang/invoke/VarHandle" := by decide +kernel
theorem nh_RX8 : RX8 ≠ "java/lang/invoke/MethodHandle" ∧ RX8 ≠ "java/lang/invoke/VarHandle" := by decide +kernel
theorem nh_RX6 : RX6 ≠ "java/lang/invoke/MethodHandle" ∧ RX6 ≠ "java/lang/invoke/VarHandle" := by decide +kernel
theorem nh_RX10 : RX10 ≠ "java/lang/invoke/MethodHandle" ∧ RX10 ≠ "java/lang/invoke/VarHandle" := by decide +kernel
theorem nh_RX1 : RX1 ≠ "java/lang/invoke/MethodHandle" ∧ RX1 ≠ "java/lang/invoke/VarHandle" := by decide +kernel
theorem nh_RX4 : RX4 ≠ "java/lang/invoke/MethodHandle" ∧ RX4 ≠ "java/lang/invoke/VarHandle" := by decide +kernel
theorem nh_RX7 : RX7 ≠ "java/lang/invoke/MethodHandle" ∧ RX7 ≠ "java/lang/invoke/VarHandle" := by decide +kernel
theorem nh_RX3 : RX3 ≠ "java/lang/invoke/MethodHandle" ∧ RX3 ≠ "java/lang/invoke/VarHandle" := by decide +kernel
theorem nh_RX0 : RX0 ≠ "java/lang/invoke/MethodHandle" ∧ RX0 ≠ "java/lang/invoke/VarHandle" := by decide +kernel
theorem nh_RX5 : RX5 ≠ "java/lang/invoke/MethodHandle" ∧ RX5 ≠ "java/lang/invoke/VarHandle" := by decide +kernel
theorem nh_RX2 : RX2 ≠ "java/lang/invoke/MethodHandle" ∧ RX2 ≠ "java/lang/invoke/VarHandle" := by decide +kernel
theorem nh_RJ0 : RJ0 ≠ "java/lang/invoke/MethodHandle" ∧ RJ0 ≠ "java/lang/invoke/VarHandle" := by decide +kernel
theorem nh_RJ1 : RJ1 ≠ "java/lang/invoke/MethodHandle" ∧ RJ1 ≠ "java/lang/invoke/VarHandle" := by decide +kernel
theorem nh_RJ3 : RJ3 ≠ "java/lang/invoke/MethodHandle" ∧ RJ3 ≠ "java/lang/invoke/VarHandle" := by decide +kernel
theorem nh_RJ6 : RJ6 ≠ "java/lang/invoke/MethodHandle" ∧ RJ6 ≠ "java/lang/invoke/VarHandle" := by decide +kernel
theorem nh_RX12 : RX12 ≠ "java/lang/invoke/MethodHandle" ∧ RX12 ≠ "java/lang/invoke/VarHandle" := by decide +kernel
theorem nh_RJ7 : RJ7 ≠ "java/lang/invoke/MethodHandle" ∧ RJ7 ≠ "java/lang/invoke/VarHandle" := by decide +kernel
theorem pd_0 : (parseMethodDescriptor "()V").map (fun d => d.parameters.length) = some 0 := by decide +kernel
theorem pd_1 : (parseMethodDescriptor "(LBehindAnotherHearse$Street;)V").map (fun d => d.parameters.length) = some 1 := by decide +kernel
theorem pd_2 : (parseMethodDescriptor "(II)V").map (fun d => d.parameters.length) = some 2 := by decide +kernel
theorem pd_3 : (parseMethodDescriptor "(I)V").map (fun d => d.parameters.length) = some 1 := by decide +kernel
theorem pd_4 : (parseMethodDescriptor "(I)I").map (fun d => d.parameters.length) = some 1 := by decide +kernel
theorem pd_5 : (parseMethodDescriptor "(I)Z").map (fun d => d.parameters.length) = some 1 := by decide +kernel
theorem pd_6 : (parseMethodDescriptor "()I").map (fun d => d.parameters.length) = some 0 := by decide +kernel
theorem pd_7 : (parseMethodDescriptor "(LBehindAnotherHearse$Text;)V").map (fun d => d.parameters.length) = some 1 := by decide +kernel
theorem pd_8 : (parseMethodDescriptor "()Z").map (fun d => d.parameters.length) = some 0 := by decide +kernel
theorem pd_9 : (parseMethodDescriptor "(Z)I").map (fun d => d.parameters.length) = some 1 := by decide +kernel
theorem pd_10 : (parseMethodDescriptor "(LBehindAnotherHearse$Scene;)V").map (fun d => d.parameters.length) = some 1 := by decide +kernel
theorem pd_11 : (parseMethodDescriptor "(II)I").map (fun d => d.parameters.length) = some 2 := by decide +kernel
theorem pd_12 : (parseMethodDescriptor "(LBehindAnotherHearse$Text;LBehindAnotherHearse$Law;)I").map (fun d => d.parameters.length) = some 2 := by decide +kernel
theorem pd_13 : (parseMethodDescriptor "(LBehindAnotherHearse$Text;LBehindAnotherHearse$Law;)Z").map (fun d => d.parameters.length) = some 2 := by decide +kernel
theorem pd_14 : (parseMethodDescriptor "()B").map (fun d => d.parameters.length) = some 0 := by decide +kernel
theorem pd_15 : (parseMethodDescriptor "([BIII)I").map (fun d => d.parameters.length) = some 4 := by decide +kernel
theorem pd_18 : (parseMethodDescriptor "(III)V").map (fun d => d.parameters.length) = some 3 := by decide +kernel
theorem pd_19 : (parseMethodDescriptor "(IIILjava/util/function/BiFunction;)I").map (fun d => d.parameters.length) = some 4 := by decide +kernel
theorem pd_20 : (parseMethodDescriptor "([BI)C").map (fun d => d.parameters.length) = some 2 := by decide +kernel
theorem pd_21 : (parseMethodDescriptor "(I)C").map (fun d => d.parameters.length) = some 1 := by decide +kernel
theorem pd_22 : (parseMethodDescriptor "(LBehindAnotherHearse$Law;I)V").map (fun d => d.parameters.length) = some 2 := by decide +kernel
theorem pd_23 : (parseMethodDescriptor "(IIII)I").map (fun d => d.parameters.length) = some 4 := by decide +kernel
theorem pd_24 : (parseMethodDescriptor "(LBehindAnotherHearse$Scene;LBehindAnotherHearse$Law;I)V").map (fun d => d.parameters.length) = some 3 := by decide +kernel
theorem pd_25 : (parseMethodDescriptor "(LBehindAnotherHearse$Scene;LBehindAnotherHearse$Law;)V").map (fun d => d.parameters.length) = some 2 := by decide +kernel
theorem pd_26 : (parseMethodDescriptor "(LBehindAnotherHearse$Scene;LBehindAnotherHearse$Street;I)V").map (fun d => d.parameters.length) = some 3 := by decide +kernel
theorem pd_27 : (parseMethodDescriptor "([II)I").map (fun d => d.parameters.length) = some 2 := by decide +kernel
theorem pd_28 : (parseMethodDescriptor "(III)I").map (fun d => d.parameters.length) = some 3 := by decide +kernel
theorem pd_29 : (parseMethodDescriptor "(LBehindAnotherHearse$Scene;I)V").map (fun d => d.parameters.length) = some 2 := by decide +kernel
theorem pd_30 : (parseMethodDescriptor "(JJ)V").map (fun d => d.parameters.length) = some 2 := by decide +kernel
theorem pd_31 : (parseMethodDescriptor "(J)V").map (fun d => d.parameters.length) = some 1 := by decide +kernel
theorem pd_32 : (parseMethodDescriptor "(IILBehindAnotherHearse$Street;)I").map (fun d => d.parameters.length) = some 3 := by decide +kernel
theorem pd_33 : (parseMethodDescriptor "(LBehindAnotherHearse$Scene;)Z").map (fun d => d.parameters.length) = some 1 := by decide +kernel
theorem pd_34 : (parseMethodDescriptor "(II)Z").map (fun d => d.parameters.length) = some 2 := by decide +kernel
theorem pd_35 : (parseMethodDescriptor "(LBehindAnotherHearse$Law;)I").map (fun d => d.parameters.length) = some 1 := by decide +kernel
theorem pd_36 : (parseMethodDescriptor "(LBehindAnotherHearse$Street;)I").map (fun d => d.parameters.length) = some 1 := by decide +kernel
theorem pd_37 : (parseMethodDescriptor "(LBehindAnotherHearse$Scene;LBehindAnotherHearse$Street;)V").map (fun d => d.parameters.length) = some 2 := by decide +kernel
theorem pd_38 : (parseMethodDescriptor "([I)V").map (fun d => d.parameters.length) = some 1 := by decide +kernel
theorem pd_39 : (parseMethodDescriptor "(LBehindAnotherHearse$Scene;I)I").map (fun d => d.parameters.length) = some 2 := by decide +kernel
theorem pd_40 : (parseMethodDescriptor "(LBehindAnotherHearse$Scene;II)I").map (fun d => d.parameters.length) = some 3 := by decide +kernel
theorem pd_41 : (parseMethodDescriptor "(LBehindAnotherHearse$Scene;III)Z").map (fun d => d.parameters.length) = some 4 := by decide +kernel
theorem pd_42 : (parseMethodDescriptor "(LBehindAnotherHearse$Scene;I)Z").map (fun d => d.parameters.length) = some 2 := by decide +kernel
theorem pd_43 : (parseMethodDescriptor "(LBehindAnotherHearse$Scene;II)Z").map (fun d => d.parameters.length) = some 3 := by decide +kernel
theorem pd_44 : (parseMethodDescriptor "(JI)J").map (fun d => d.parameters.length) = some 2 := by decide +kernel
theorem pd_45 : (parseMethodDescriptor "(JJ)J").map (fun d => d.parameters.length) = some 2 := by decide +kernel
theorem pd_46 : (parseMethodDescriptor "(III)Z").map (fun d => d.parameters.length) = some 3 := by decide +kernel
theorem pd_47 : (parseMethodDescriptor "(I)J").map (fun d => d.parameters.length) = some 1 := by decide +kernel
theorem pd_48 : (parseMethodDescriptor "(JJJ)Z").map (fun d => d.parameters.length) = some 3 := by decide +kernel
theorem pd_49 : (parseMethodDescriptor "(Ljava/lang/String;)I").map (fun d => d.parameters.length) = some 1 := by decide +kernel
theorem pd_50 : (parseMethodDescriptor "(IILjava/util/function/BiFunction;)I").map (fun d => d.parameters.length) = some 3 := by decide +kernel
theorem pd_52 : (parseMethodDescriptor "(IIZ)I").map (fun d => d.parameters.length) = some 3 := by decide +kernel
theorem pd_53 : (parseMethodDescriptor "(II)Ljava/lang/String;").map (fun d => d.parameters.length) = some 2 := by decide +kernel
theorem pd_54 : (parseMethodDescriptor "([BII)Ljava/lang/String;").map (fun d => d.parameters.length) = some 3 := by decide +kernel
theorem pd_55 : (parseMethodDescriptor "([BII)[B").map (fun d => d.parameters.length) = some 3 := by decide +kernel
theorem pd_56 : (parseMethodDescriptor "([BB)V").map (fun d => d.parameters.length) = some 2 := by decide +kernel
theorem pd_59 : (parseMethodDescriptor "([II)V").map (fun d => d.parameters.length) = some 2 := by decide +kernel
theorem pd_60 : (parseMethodDescriptor "([II)Z").map (fun d => d.parameters.length) = some 2 := by decide +kernel
theorem pd_61 : (parseMethodDescriptor "([III)I").map (fun d => d.parameters.length) = some 3 := by decide +kernel
theorem pd_62 : (parseMethodDescriptor "([III)Z").map (fun d => d.parameters.length) = some 3 := by decide +kernel
theorem pd_63 : (parseMethodDescriptor "([IZ)I").map (fun d => d.parameters.length) = some 2 := by decide +kernel
theorem pd_64 : (parseMethodDescriptor "(IIII)V").map (fun d => d.parameters.length) = some 4 := by decide +kernel
theorem lw_h1 (i : Nat) {w : Cond} (h : tables_1_1[i]? = some w) (hg : goodWord w = true) : w ∈ lw_good := List.mem_filter.mpr ⟨List.mem_append_right _ (List.mem_append_left _ (List.mem_of_getElem? h)), hg⟩
theorem lw_h2 (i : Nat) {w : Cond} (h : tables_1_2[i]? = some w) (hg : goodWord w = true) : w ∈ lw_good := List.mem_filter.mpr ⟨List.mem_append_right _ (List.mem_append_right _ (List.mem_append_left _ (List.mem_of_getElem? h))), hg⟩
theorem lw_h3 (i : Nat) {w : Cond} (h : tables_1_3[i]? = some w) (hg : goodWord w = true) : w ∈ lw_good := List.mem_filter.mpr ⟨List.mem_append_right _ (List.mem_append_right _ (List.mem_append_right _ (List.mem_append_left _ (List.mem_of_getElem? h)))), hg⟩
theorem lw_h4 (i : Nat) {w : Cond} (h : tables_1_4[i]? = some w) (hg : goodWord w = true) : w ∈ lw_good := List.mem_filter.mpr ⟨List.mem_append_right _ (List.mem_append_right _ (List.mem_append_right _ (List.mem_append_right _ (List.mem_append_left _ (List.mem_of_getElem? h))))), hg⟩
theorem lw_h5 (i : Nat) {w : Cond} (h : tables_1_5[i]? = some w) (hg : goodWord w = true) : w ∈ lw_good := List.mem_filter.mpr ⟨List.mem_append_right _ (List.mem_append_right _ (List.mem_append_right _ (List.mem_append_right _ (List.mem_append_right _ (List.mem_append_left _ (List.mem_of_getElem? h)))))), hg⟩
theorem lw_h6 (i : Nat) {w : Cond} (h : tables_1_6[i]? = some w) (hg : goodWord w = true) : w ∈ lw_good := List.mem_filter.mpr ⟨List.mem_append_right _ (List.mem_append_right _ (List.mem_append_right _ (List.mem_append_right _ (List.mem_append_right _ (List.mem_append_right _ (List.mem_append_left _ (List.mem_of_getElem? h))))))), hg⟩
theorem lw_h7 (i : Nat) {w : Cond} (h : tables_1_7[i]? = some w) (hg : goodWord w = true) : w ∈ lw_good := List.mem_filter.mpr ⟨List.mem_append_right _ (List.mem_append_right _ (List.mem_append_right _ (List.mem_append_right _ (List.mem_append_right _ (List.mem_append_right _ (List.mem_append_right _ (List.mem_append_left _ (List.mem_of_getElem? h)))))))), hg⟩
theorem lw_h8 (i : Nat) {w : Cond} (h : tables_1_8[i]? = some w) (hg : goodWord w = true) : w ∈ lw_good := List.mem_filter.mpr ⟨List.mem_append_right _ (List.mem_append_right _ (List.mem_append_right _ (List.mem_append_right _ (List.mem_append_right _ (List.mem_append_right _ (List.mem_append_right _ (List.mem_append_right _ (List.mem_append_left _ (List.mem_of_getElem? h))))))))), hg⟩
set_option maxRecDepth 100000 in
theorem in_X11 : Cond.initialized RX11 ∈ lw_good := lw_h1 1 rfl rfl
set_option maxRecDepth 100000 in
theorem in_X9 : Cond.initialized RX9 ∈ lw_good := lw_h1 2 rfl rfl
set_option maxRecDepth 100000 in
theorem in_X8 : Cond.initialized RX8 ∈ lw_good := lw_h1 3 rfl rfl
set_option maxRecDepth 100000 in
theorem in_X6 : Cond.initialized RX6 ∈ lw_good := lw_h1 4 rfl rfl
set_option maxRecDepth 100000 in
theorem in_X10 : Cond.initialized RX10 ∈ lw_good := lw_h1 5 rfl rfl
set_option maxRecDepth 100000 in
theorem in_X1 : Cond.initialized RX1 ∈ lw_good := lw_h1 6 rfl rfl
set_option maxRecDepth 100000 in
theorem in_X4 : Cond.initialized RX4 ∈ lw_good := lw_h1 7 rfl rfl
set_option maxRecDepth 100000 in
theorem in_X7 : Cond.initialized RX7 ∈ lw_good := lw_h1 8 rfl rfl
set_option maxRecDepth 100000 in
theorem in_X3 : Cond.initialized RX3 ∈ lw_good := lw_h1 9 rfl rfl
set_option maxRecDepth 100000 in
theorem in_X0 : Cond.initialized RX0 ∈ lw_good := lw_h1 10 rfl rfl
set_option maxRecDepth 100000 in
theorem in_X5 : Cond.initialized RX5 ∈ lw_good := lw_h1 11 rfl rfl
set_option maxRecDepth 100000 in
theorem in_X2 : Cond.initialized RX2 ∈ lw_good := lw_h1 12 rfl rfl
set_option maxRecDepth 100000 in
theorem in_X12 : Cond.initialized RX12 ∈ lw_good := lw_h1 13 rfl rfl
set_option maxRecDepth 100000 in
theorem in_J9 : Cond.initialized RJ9 ∈ lw_good := lw_h1 14 rfl rfl
set_option maxRecDepth 100000 in
theorem in_J0 : Cond.initialized RJ0 ∈ lw_good := lw_h1 15 rfl rfl
set_option maxRecDepth 100000 in
theorem in_J1 : Cond.initialized RJ1 ∈ lw_good := lw_h1 16 rfl rfl
set_option maxRecDepth 100000 in
theorem in_J3 : Cond.initialized RJ3 ∈ lw_good := lw_h1 17 rfl rfl
set_option maxRecDepth 100000 in
theorem in_J10 : Cond.initialized RJ10 ∈ lw_good := lw_h1 19 rfl rfl
set_option maxRecDepth 100000 in
theorem in_J7 : Cond.initialized RJ7 ∈ lw_good := lw_h1 20 rfl rfl
set_option maxRecDepth 100000 in
theorem in_J6 : Cond.initialized RJ6 ∈ lw_good := lw_h1 26 rfl rfl
set_option maxRecDepth 100000 in
theorem cl_L_8 : Cond.classLink RL 8 RX11 ∈ lw_good := lw_h1 27 rfl rfl
set_option maxRecDepth 100000 in
theorem it_X11 : Cond.instantiable RX11 18 ∈ lw_good := lw_h1 28 rfl rfl
set_option maxRecDepth 100000 in
theorem ml_L_22 : Cond.methodLink RL 22 yX11_init ∈ lw_good := lw_h1 29 rfl rfl
set_option maxRecDepth 100000 in
theorem ml_X11_1 : Cond.methodLink RX11 1 objectInit ∈ lw_good := lw_h1 32 rfl rfl
set_option maxRecDepth 100000 in
theorem im_init : Cond.instanceMethod objectInit ∈ lw_good := lw_h1 33 rfl rfl
set_option maxRecDepth 100000 in
theorem cd_init : Cond.code objectInit ⟨#[0xb1]⟩ 1 none ∈ lw_good := lw_h1 34 rfl rfl
set_option maxRecDepth 100000 in
theorem cl_X11_7 : Cond.classLink RX11 7 RX9 ∈ lw_good := lw_h1 35 rfl rfl
set_option maxRecDepth 100000 in
theorem it_X9 : Cond.instantiable RX9 4 ∈ lw_good := lw_h1 36 rfl rfl
set_option maxRecDepth 100000 in
theorem ml_X11_9 : Cond.methodLinkNest RX11 9 yX9_init "BehindAnotherHearse" ∈ lw_nest := lw_ni 119 rfl rfl
set_option maxRecDepth 100000 in
theorem ml_X9_3 : Cond.methodLink RX9 3 objectInit ∈ lw_good := lw_h1 40 rfl rfl
set_option maxRecDepth 100000 in
theorem fl_X9_9 : Cond.fieldLink RX9 9 "BehindAnotherHearse$Text" "signs" "[I" ∈ lw_good := lw_h1 41 rfl rfl
set_option maxRecDepth 100000 in
theorem fl_X9_15 : Cond.fieldLink RX9 15 "BehindAnotherHearse$Text" "length" "I" ∈ lw_good := lw_h1 42 rfl rfl
set_option maxRecDepth 100000 in
theorem fl_X8_25 : Cond.fieldLinkNest RX8 25 "BehindAnotherHearse$Text" "length" "I" "BehindAnotherHearse" ∈ lw_nest := lw_ni 125 rfl rfl
set_option maxRecDepth 100000 in
theorem fl_X11_119 : Cond.fieldLinkNest RX11 119 "BehindAnotherHearse$Text" "length" "I" "BehindAnotherHearse" ∈ lw_nest := lw_ni 126 rfl rfl
set_option maxRecDepth 100000 in
theorem fl_X9_19 : Cond.fieldLink RX9 19 "BehindAnotherHearse$Text" "at" "I" ∈ lw_good := lw_h1 45 rfl rfl
set_option maxRecDepth 100000 in
theorem fl_X5_54 : Cond.fieldLinkNest RX5 54 "BehindAnotherHearse$Text" "at" "I" "BehindAnotherHearse" ∈ lw_nest := lw_ni 128 rfl rfl
set_option maxRecDepth 100000 in
theorem fl_X11_167 : Cond.fieldLinkNest RX11 167 "BehindAnotherHearse$Text" "at" "I" "BehindAnotherHearse" ∈ lw_nest := lw_ni 129 rfl rfl
set_option maxRecDepth 100000 in
theorem fl_X9_22 : Cond.fieldLink RX9 22 "BehindAnotherHearse$Text" "stop" "I" ∈ lw_good := lw_h1 48 rfl rfl
set_option maxRecDepth 100000 in
theorem ac_int : Cond.arrayClass .int ∈ lw_good := lw_h1 58 rfl rfl
set_option maxRecDepth 100000 in
theorem cl_X11_16 : Cond.classLink RX11 16 RX8 ∈ lw_good := lw_h1 59 rfl rfl
set_option maxRecDepth 100000 in
theorem it_X8 : Cond.instantiable RX8 4 ∈ lw_good := lw_h1 60 rfl rfl
set_option maxRecDepth 100000 in
theorem ml_X11_18 : Cond.methodLinkNest RX11 18 yX8_init "BehindAnotherHearse" ∈ lw_nest := lw_ni 143 rfl rfl
set_option maxRecDepth 100000 in
theorem ml_X8_3 : Cond.methodLink RX8 3 objectInit ∈ lw_good := lw_h1 64 rfl rfl
set_option maxRecDepth 100000 in
theorem fl_X8_9 : Cond.fieldLink RX8 9 "BehindAnotherHearse$Street" "digits" "[I" ∈ lw_good := lw_h1 65 rfl rfl
set_option maxRecDepth 100000 in
theorem fl_X8_15 : Cond.fieldLink RX8 15 "BehindAnotherHearse$Street" "cells" "I" ∈ lw_good := lw_h1 66 rfl rfl
set_option maxRecDepth 100000 in
theorem fl_X3_22 : Cond.fieldLinkNest RX3 22 "BehindAnotherHearse$Street" "cells" "I" "BehindAnotherHearse" ∈ lw_nest := lw_ni 149 rfl rfl
set_option maxRecDepth 100000 in
theorem fl_X10_60 : Cond.fieldLinkNest RX10 60 "BehindAnotherHearse$Street" "cells" "I" "BehindAnotherHearse" ∈ lw_nest := lw_ni 150 rfl rfl
set_option maxRecDepth 100000 in
theorem fl_X11_350 : Cond.fieldLinkNest RX11 350 "BehindAnotherHearse$Street" "cells" "I" "BehindAnotherHearse" ∈ lw_nest := lw_ni 151 rfl rfl
set_option maxRecDepth 100000 in
theorem fl_X8_19 : Cond.fieldLink RX8 19 "BehindAnotherHearse$Street" "corners" "I" ∈ lw_good := lw_h1 70 rfl rfl
set_option maxRecDepth 100000 in
theorem fl_X10_115 : Cond.fieldLinkNest RX10 115 "BehindAnotherHearse$Street" "corners" "I" "BehindAnotherHearse" ∈ lw_nest := lw_ni 153 rfl rfl
set_option maxRecDepth 100000 in
theorem fl_X11_486 : Cond.fieldLinkNest RX11 486 "BehindAnotherHearse$Street" "corners" "I" "BehindAnotherHearse" ∈ lw_nest := lw_ni 154 rfl rfl
set_option maxRecDepth 100000 in
theorem fl_X8_22 : Cond.fieldLink RX8 22 "BehindAnotherHearse$Street" "digitCount" "I" ∈ lw_good := lw_h1 73 rfl rfl
set_option maxRecDepth 100000 in
theorem fl_X2_46 : Cond.fieldLinkNest RX2 46 "BehindAnotherHearse$Street" "digitCount" "I" "BehindAnotherHearse" ∈ lw_nest := lw_ni 156 rfl rfl
set_option maxRecDepth 100000 in
theorem cl_X11_23 : Cond.classLink RX11 23 RX6 ∈ lw_good := lw_h1 84 rfl rfl
set_option maxRecDepth 100000 in
theorem it_X6 : Cond.instantiable RX6 11 ∈ lw_good := lw_h1 85 rfl rfl
set_option maxRecDepth 100000 in
theorem ml_X11_25 : Cond.methodLinkNest RX11 25 yX6_init "BehindAnotherHearse" ∈ lw_nest := lw_ni 168 rfl rfl
set_option maxRecDepth 100000 in
theorem ml_X6_3 : Cond.methodLink RX6 3 objectInit ∈ lw_good := lw_h1 89 rfl rfl
set_option maxRecDepth 100000 in
theorem fl_X6_9 : Cond.fieldLink RX6 9 "BehindAnotherHearse$Scene" "cell" "[I" ∈ lw_good := lw_h1 90 rfl rfl
set_option maxRecDepth 100000 in
theorem fl_X7_49 : Cond.fieldLinkNest RX7 49 "BehindAnotherHearse$Scene" "cell" "[I" "BehindAnotherHearse" ∈ lw_nest := lw_ni 173 rfl rfl
set_option maxRecDepth 100000 in
theorem fl_X10_69 : Cond.fieldLinkNest RX10 69 "BehindAnotherHearse$Scene" "cell" "[I" "BehindAnotherHearse" ∈ lw_nest := lw_ni 174 rfl rfl
set_option maxRecDepth 100000 in
theorem fl_X2_51 : Cond.fieldLinkNest RX2 51 "BehindAnotherHearse$Scene" "cell" "[I" "BehindAnotherHearse" ∈ lw_nest := lw_ni 175 rfl rfl
set_option maxRecDepth 100000 in
theorem fl_X11_230 : Cond.fieldLinkNest RX11 230 "BehindAnotherHearse$Scene" "cell" "[I" "BehindAnotherHearse" ∈ lw_nest := lw_ni 176 rfl rfl
set_option maxRecDepth 100000 in
theorem fl_X6_15 : Cond.fieldLink RX6 15 "BehindAnotherHearse$Scene" "rank" "[I" ∈ lw_good := lw_h1 95 rfl rfl
set_option maxRecDepth 100000 in
theorem fl_X0_45 : Cond.fieldLinkNest RX0 45 "BehindAnotherHearse$Scene" "rank" "[I" "BehindAnotherHearse" ∈ lw_nest := lw_ni 178 rfl rfl
set_option maxRecDepth 100000 in
theorem fl_X11_234 : Cond.fieldLinkNest RX11 234 "BehindAnotherHearse$Scene" "rank" "[I" "BehindAnotherHearse" ∈ lw_nest := lw_ni 179 rfl rfl
set_option maxRecDepth 100000 in
theorem fl_X6_18 : Cond.fieldLink RX6 18 "BehindAnotherHearse$Scene" "place" "[I" ∈ lw_good := lw_h1 98 rfl rfl
set_option maxRecDepth 100000 in
theorem fl_X7_53 : Cond.fieldLinkNest RX7 53 "BehindAnotherHearse$Scene" "place" "[I" "BehindAnotherHearse" ∈ lw_nest := lw_ni 181 rfl rfl
set_option maxRecDepth 100000 in
theorem fl_X10_128 : Cond.fieldLinkNest RX10 128 "BehindAnotherHearse$Scene" "place" "[I" "BehindAnotherHearse" ∈ lw_nest := lw_ni 182 rfl rfl
set_option maxRecDepth 100000 in
theorem fl_X11_270 : Cond.fieldLinkNest RX11 270 "BehindAnotherHearse$Scene" "place" "[I" "BehindAnotherHearse" ∈ lw_nest := lw_ni 183 rfl rfl
set_option maxRecDepth 100000 in
theorem fl_X6_21 : Cond.fieldLink RX6 21 "BehindAnotherHearse$Scene" "own" "[I" ∈ lw_good := lw_h1 102 rfl rfl
set_option maxRecDepth 100000 in
theorem fl_X0_30 : Cond.fieldLinkNest RX0 30 "BehindAnotherHearse$Scene" "own" "[I" "BehindAnotherHearse" ∈ lw_nest := lw_ni 185 rfl rfl
set_option maxRecDepth 100000 in
theorem fl_X11_250 : Cond.fieldLinkNest RX11 250 "BehindAnotherHearse$Scene" "own" "[I" "BehindAnotherHearse" ∈ lw_nest := lw_ni 186 rfl rfl
set_option maxRecDepth 100000 in
theorem fl_X6_24 : Cond.fieldLink RX6 24 "BehindAnotherHearse$Scene" "follows" "[I" ∈ lw_good := lw_h1 105 rfl rfl
set_option maxRecDepth 100000 in
theorem fl_X10_118 : Cond.fieldLinkNest RX10 118 "BehindAnotherHearse$Scene" "follows" "[I" "BehindAnotherHearse" ∈ lw_nest := lw_ni 188 rfl rfl
set_option maxRecDepth 100000 in
theorem fl_X2_74 : Cond.fieldLinkNest RX2 74 "BehindAnotherHearse$Scene" "follows" "[I" "BehindAnotherHearse" ∈ lw_nest := lw_ni 189 rfl rfl
set_option maxRecDepth 100000 in
theorem fl_X11_240 : Cond.fieldLinkNest RX11 240 "BehindAnotherHearse$Scene" "follows" "[I" "BehindAnotherHearse" ∈ lw_nest := lw_ni 190 rfl rfl
set_option maxRecDepth 100000 in
theorem fl_X6_27 : Cond.fieldLink RX6 27 "BehindAnotherHearse$Scene" "grave" "[I" ∈ lw_good := lw_h1 109 rfl rfl
set_option maxRecDepth 100000 in
theorem fl_X0_48 : Cond.fieldLinkNest RX0 48 "BehindAnotherHearse$Scene" "grave" "[I" "BehindAnotherHearse" ∈ lw_nest := lw_ni 192 rfl rfl
set_option maxRecDepth 100000 in
theorem fl_X11_247 : Cond.fieldLinkNest RX11 247 "BehindAnotherHearse$Scene" "grave" "[I" "BehindAnotherHearse" ∈ lw_nest := lw_ni 193 rfl rfl
set_option maxRecDepth 100000 in
theorem fl_X6_30 : Cond.fieldLink RX6 30 "BehindAnotherHearse$Scene" "hearseCount" "I" ∈ lw_good := lw_h1 112 rfl rfl
set_option maxRecDepth 100000 in
theorem fl_X7_20 : Cond.fieldLinkNest RX7 20 "BehindAnotherHearse$Scene" "hearseCount" "I" "BehindAnotherHearse" ∈ lw_nest := lw_ni 195 rfl rfl
set_option maxRecDepth 100000 in
theorem fl_X10_57 : Cond.fieldLinkNest RX10 57 "BehindAnotherHearse$Scene" "hearseCount" "I" "BehindAnotherHearse" ∈ lw_nest := lw_ni 196 rfl rfl
set_option maxRecDepth 100000 in
theorem fl_X11_176 : Cond.fieldLinkNest RX11 176 "BehindAnotherHearse$Scene" "hearseCount" "I" "BehindAnotherHearse" ∈ lw_nest := lw_ni 197 rfl rfl
set_option maxRecDepth 100000 in
theorem fl_X6_34 : Cond.fieldLink RX6 34 "BehindAnotherHearse$Scene" "mournerCount" "I" ∈ lw_good := lw_h1 116 rfl rfl
set_option maxRecDepth 100000 in
theorem fl_X7_25 : Cond.fieldLinkNest RX7 25 "BehindAnotherHearse$Scene" "mournerCount" "I" "BehindAnotherHearse" ∈ lw_nest := lw_ni 199 rfl rfl
set_option maxRecDepth 100000 in
theorem fl_X10_51 : Cond.fieldLinkNest RX10 51 "BehindAnotherHearse$Scene" "mournerCount" "I" "BehindAnotherHearse" ∈ lw_nest := lw_ni 200 rfl rfl
set_option maxRecDepth 100000 in
theorem fl_X11_191 : Cond.fieldLinkNest RX11 191 "BehindAnotherHearse$Scene" "mournerCount" "I" "BehindAnotherHearse" ∈ lw_nest := lw_ni 201 rfl rfl
set_option maxRecDepth 100000 in
theorem fl_X6_37 : Cond.fieldLink RX6 37 "BehindAnotherHearse$Scene" "arrivedCount" "I" ∈ lw_good := lw_h1 120 rfl rfl
set_option maxRecDepth 100000 in
theorem fl_X10_54 : Cond.fieldLinkNest RX10 54 "BehindAnotherHearse$Scene" "arrivedCount" "I" "BehindAnotherHearse" ∈ lw_nest := lw_ni 203 rfl rfl
set_option maxRecDepth 100000 in
theorem fl_X11_302 : Cond.fieldLinkNest RX11 302 "BehindAnotherHearse$Scene" "arrivedCount" "I" "BehindAnotherHearse" ∈ lw_nest := lw_ni 204 rfl rfl
set_option maxRecDepth 100000 in
theorem fl_X6_40 : Cond.fieldLink RX6 40 "BehindAnotherHearse$Scene" "endedCount" "I" ∈ lw_good := lw_h1 123 rfl rfl
set_option maxRecDepth 100000 in
theorem fl_X10_46 : Cond.fieldLinkNest RX10 46 "BehindAnotherHearse$Scene" "endedCount" "I" "BehindAnotherHearse" ∈ lw_nest := lw_ni 206 rfl rfl
set_option maxRecDepth 100000 in
theorem fl_X11_482 : Cond.fieldLinkNest RX11 482 "BehindAnotherHearse$Scene" "endedCount" "I" "BehindAnotherHearse" ∈ lw_nest := lw_ni 207 rfl rfl
set_option maxRecDepth 100000 in
theorem fl_X6_43 : Cond.fieldLink RX6 43 "BehindAnotherHearse$Scene" "step" "I" ∈ lw_good := lw_h1 126 rfl rfl
set_option maxRecDepth 100000 in
theorem fl_X10_84 : Cond.fieldLinkNest RX10 84 "BehindAnotherHearse$Scene" "step" "I" "BehindAnotherHearse" ∈ lw_nest := lw_ni 209 rfl rfl
set_option maxRecDepth 100000 in
theorem fl_X2_67 : Cond.fieldLinkNest RX2 67 "BehindAnotherHearse$Scene" "step" "I" "BehindAnotherHearse" ∈ lw_nest := lw_ni 210 rfl rfl
set_option maxRecDepth 100000 in
theorem fl_X11_333 : Cond.fieldLinkNest RX11 333 "BehindAnotherHearse$Scene" "step" "I" "BehindAnotherHearse" ∈ lw_nest := lw_ni 211 rfl rfl
set_option maxRecDepth 100000 in
theorem cl_X11_39 : Cond.classLink RX11 39 RX10 ∈ lw_good := lw_h1 153 rfl rfl
set_option maxRecDepth 100000 in
theorem it_X10 : Cond.instantiable RX10 6 ∈ lw_good := lw_h1 154 rfl rfl
set_option maxRecDepth 100000 in
theorem ml_X11_41 : Cond.methodLink RX11 41 yX10_init ∈ lw_good := lw_h1 155 rfl rfl
set_option maxRecDepth 100000 in
theorem ml_X10_3 : Cond.methodLink RX10 3 objectInit ∈ lw_good := lw_h1 158 rfl rfl
set_option maxRecDepth 100000 in
theorem fl_X10_29 : Cond.fieldLink RX10 29 "BehindAnotherHearse$Walker" "street" "LBehindAnotherHearse$Street;" ∈ lw_good := lw_h1 159 rfl rfl
set_option maxRecDepth 100000 in
theorem fl_X10_9 : Cond.fieldLink RX10 9 "BehindAnotherHearse$Walker" "waitsOn" "[I" ∈ lw_good := lw_h1 160 rfl rfl
set_option maxRecDepth 100000 in
theorem fl_X11_369 : Cond.fieldLinkNest RX11 369 "BehindAnotherHearse$Walker" "waitsOn" "[I" "BehindAnotherHearse" ∈ lw_nest := lw_ni 243 rfl rfl
set_option maxRecDepth 100000 in
theorem fl_X10_15 : Cond.fieldLink RX10 15 "BehindAnotherHearse$Walker" "changesOf" "[I" ∈ lw_good := lw_h1 162 rfl rfl
set_option maxRecDepth 100000 in
theorem fl_X11_379 : Cond.fieldLinkNest RX11 379 "BehindAnotherHearse$Walker" "changesOf" "[I" "BehindAnotherHearse" ∈ lw_nest := lw_ni 245 rfl rfl
set_option maxRecDepth 100000 in
theorem fl_X10_18 : Cond.fieldLink RX10 18 "BehindAnotherHearse$Walker" "waits" "I" ∈ lw_good := lw_h1 164 rfl rfl
set_option maxRecDepth 100000 in
theorem fl_X11_292 : Cond.fieldLinkNest RX11 292 "BehindAnotherHearse$Walker" "waits" "I" "BehindAnotherHearse" ∈ lw_nest := lw_ni 247 rfl rfl
set_option maxRecDepth 100000 in
theorem fl_X10_22 : Cond.fieldLink RX10 22 "BehindAnotherHearse$Walker" "changes" "I" ∈ lw_good := lw_h1 166 rfl rfl
set_option maxRecDepth 100000 in
theorem fl_X11_295 : Cond.fieldLinkNest RX11 295 "BehindAnotherHearse$Walker" "changes" "I" "BehindAnotherHearse" ∈ lw_nest := lw_ni 249 rfl rfl
set_option maxRecDepth 100000 in
theorem fl_X10_25 : Cond.fieldLink RX10 25 "BehindAnotherHearse$Walker" "isStirred" "Z" ∈ lw_good := lw_h1 168 rfl rfl
set_option maxRecDepth 100000 in
theorem cl_X11_48 : Cond.classLink RX11 48 RX1 ∈ lw_good := lw_h1 182 rfl rfl
set_option maxRecDepth 100000 in
theorem it_X1 : Cond.instantiable RX1 3 ∈ lw_good := lw_h1 183 rfl rfl
set_option maxRecDepth 100000 in
theorem ml_X11_50 : Cond.methodLink RX11 50 yX1_init ∈ lw_good := lw_h1 184 rfl rfl
set_option maxRecDepth 100000 in
theorem ml_X1_3 : Cond.methodLink RX1 3 objectInit ∈ lw_good := lw_h1 187 rfl rfl
set_option maxRecDepth 100000 in
theorem cl_X1_9 : Cond.classLink RX1 9 RX6 ∈ lw_good := lw_h1 188 rfl rfl
set_option maxRecDepth 100000 in
theorem ao_S : Cond.arrayOver (.object "BehindAnotherHearse$Scene") ∈ lw_tbl := List.mem_of_getElem? (i := 271) rfl
set_option maxRecDepth 100000 in
theorem ml_X1_24 : Cond.methodLinkNest RX1 24 yX6_init "BehindAnotherHearse" ∈ lw_nest := lw_ni 272 rfl rfl
set_option maxRecDepth 100000 in
theorem fl_X1_11 : Cond.fieldLink RX1 11 "BehindAnotherHearse$History" "scenes" "[LBehindAnotherHearse$Scene;" ∈ lw_good := lw_h1 191 rfl rfl
set_option maxRecDepth 100000 in
theorem fl_X1_17 : Cond.fieldLink RX1 17 "BehindAnotherHearse$History" "first" "I" ∈ lw_good := lw_h1 192 rfl rfl
set_option maxRecDepth 100000 in
theorem fl_X1_21 : Cond.fieldLink RX1 21 "BehindAnotherHearse$History" "count" "I" ∈ lw_good := lw_h1 193 rfl rfl
set_option maxRecDepth 100000 in
theorem fl_X11_346 : Cond.fieldLinkNest RX11 346 "BehindAnotherHearse$History" "count" "I" "BehindAnotherHearse" ∈ lw_nest := lw_ni 276 rfl rfl
set_option maxRecDepth 100000 in
theorem cl_X11_63 : Cond.classLink RX11 63 RX4 ∈ lw_good := lw_h1 202 rfl rfl
set_option maxRecDepth 100000 in
theorem it_X4 : Cond.instantiable RX4 2 ∈ lw_good := lw_h1 203 rfl rfl
set_option maxRecDepth 100000 in
theorem ml_X11_65 : Cond.methodLinkNest RX11 65 yX4_init "BehindAnotherHearse" ∈ lw_nest := lw_ni 286 rfl rfl
set_option maxRecDepth 100000 in
theorem ml_X4_3 : Cond.methodLink RX4 3 objectInit ∈ lw_good := lw_h1 207 rfl rfl
set_option maxRecDepth 100000 in
theorem fl_X4_9 : Cond.fieldLink RX4 9 "BehindAnotherHearse$Row" "numbers" "[J" ∈ lw_good := lw_h1 208 rfl rfl
set_option maxRecDepth 100000 in
theorem fl_X11_494 : Cond.fieldLinkNest RX11 494 "BehindAnotherHearse$Row" "numbers" "[J" "BehindAnotherHearse" ∈ lw_nest := lw_ni 291 rfl rfl
set_option maxRecDepth 100000 in
theorem fl_X4_15 : Cond.fieldLink RX4 15 "BehindAnotherHearse$Row" "size" "I" ∈ lw_good := lw_h1 210 rfl rfl
set_option maxRecDepth 100000 in
theorem fl_X11_359 : Cond.fieldLinkNest RX11 359 "BehindAnotherHearse$Row" "size" "I" "BehindAnotherHearse" ∈ lw_nest := lw_ni 293 rfl rfl
set_option maxRecDepth 100000 in
theorem ac_boolean : Cond.arrayClass .boolean ∈ lw_good := lw_h1 217 rfl rfl
set_option maxRecDepth 100000 in
theorem ac_long : Cond.arrayClass .long ∈ lw_good := lw_h1 218 rfl rfl
set_option maxRecDepth 100000 in
theorem cl_X11_70 : Cond.classLink RX11 70 RX7 ∈ lw_good := lw_h1 219 rfl rfl
set_option maxRecDepth 100000 in
theorem it_X7 : Cond.instantiable RX7 2 ∈ lw_good := lw_h1 220 rfl rfl
set_option maxRecDepth 100000 in
theorem ml_X11_72 : Cond.methodLinkNest RX11 72 yX7_init "BehindAnotherHearse" ∈ lw_nest := lw_ni 303 rfl rfl
set_option maxRecDepth 100000 in
theorem ml_X7_3 : Cond.methodLink RX7 3 objectInit ∈ lw_good := lw_h1 224 rfl rfl
set_option maxRecDepth 100000 in
theorem cl_X7_9 : Cond.classLink RX7 9 "[[I" ∈ lw_good := lw_h1 225 rfl rfl
set_option maxRecDepth 100000 in
theorem ao_I : Cond.arrayOver (.array .int) ∈ lw_tbl := List.mem_of_getElem? (i := 308) rfl
set_option maxRecDepth 100000 in
theorem fl_X7_11 : Cond.fieldLink RX7 11 "BehindAnotherHearse$Sharing" "most" "[[I" ∈ lw_good := lw_h1 227 rfl rfl
set_option maxRecDepth 100000 in
theorem fl_X7_16 : Cond.fieldLink RX7 16 "BehindAnotherHearse$Sharing" "reach" "I" ∈ lw_good := lw_h1 228 rfl rfl
set_option maxRecDepth 100000 in
theorem cl_X11_77 : Cond.classLink RX11 77 RX3 ∈ lw_good := lw_h1 234 rfl rfl
set_option maxRecDepth 100000 in
theorem it_X3 : Cond.instantiable RX3 3 ∈ lw_good := lw_h1 235 rfl rfl
set_option maxRecDepth 100000 in
theorem ml_X11_79 : Cond.methodLinkNest RX11 79 yX3_init "BehindAnotherHearse" ∈ lw_nest := lw_ni 318 rfl rfl
set_option maxRecDepth 100000 in
theorem ml_X3_3 : Cond.methodLink RX3 3 objectInit ∈ lw_good := lw_h1 239 rfl rfl
set_option maxRecDepth 100000 in
theorem fl_X3_9 : Cond.fieldLink RX3 9 "BehindAnotherHearse$Orders" "cells" "[I" ∈ lw_good := lw_h2 0 rfl rfl
set_option maxRecDepth 100000 in
theorem fl_X11_404 : Cond.fieldLinkNest RX11 404 "BehindAnotherHearse$Orders" "cells" "[I" "BehindAnotherHearse" ∈ lw_nest := lw_ni 323 rfl rfl
set_option maxRecDepth 100000 in
theorem fl_X3_15 : Cond.fieldLink RX3 15 "BehindAnotherHearse$Orders" "best" "[I" ∈ lw_good := lw_h2 2 rfl rfl
set_option maxRecDepth 100000 in
theorem fl_X11_417 : Cond.fieldLinkNest RX11 417 "BehindAnotherHearse$Orders" "best" "[I" "BehindAnotherHearse" ∈ lw_nest := lw_ni 325 rfl rfl
set_option maxRecDepth 100000 in
theorem fl_X3_18 : Cond.fieldLink RX3 18 "BehindAnotherHearse$Orders" "size" "I" ∈ lw_good := lw_h2 4 rfl rfl
set_option maxRecDepth 100000 in
theorem fl_X11_416 : Cond.fieldLinkNest RX11 416 "BehindAnotherHearse$Orders" "size" "I" "BehindAnotherHearse" ∈ lw_nest := lw_ni 327 rfl rfl
set_option maxRecDepth 100000 in
theorem cl_X11_84 : Cond.classLink RX11 84 RX0 ∈ lw_good := lw_h2 13 rfl rfl
set_option maxRecDepth 100000 in
theorem it_X0 : Cond.instantiable RX0 3 ∈ lw_good := lw_h2 14 rfl rfl
set_option maxRecDepth 100000 in
theorem ml_X11_86 : Cond.methodLinkNest RX11 86 yX0_init "BehindAnotherHearse" ∈ lw_nest := lw_ni 337 rfl rfl
set_option maxRecDepth 100000 in
theorem ml_X0_3 : Cond.methodLink RX0 3 objectInit ∈ lw_good := lw_h2 18 rfl rfl
set_option maxRecDepth 100000 in
theorem fl_X0_9 : Cond.fieldLink RX0 9 "BehindAnotherHearse$Hearsay" "kinds" "[I" ∈ lw_good := lw_h2 19 rfl rfl
set_option maxRecDepth 100000 in
theorem fl_X0_15 : Cond.fieldLink RX0 15 "BehindAnotherHearse$Hearsay" "values" "[I" ∈ lw_good := lw_h2 20 rfl rfl
set_option maxRecDepth 100000 in
theorem fl_X0_18 : Cond.fieldLink RX0 18 "BehindAnotherHearse$Hearsay" "count" "I" ∈ lw_good := lw_h2 21 rfl rfl
set_option maxRecDepth 100000 in
theorem fl_X11_456 : Cond.fieldLinkNest RX11 456 "BehindAnotherHearse$Hearsay" "count" "I" "BehindAnotherHearse" ∈ lw_nest := lw_ni 344 rfl rfl
set_option maxRecDepth 100000 in
theorem cl_X11_91 : Cond.classLink RX11 91 RX5 ∈ lw_good := lw_h2 30 rfl rfl
set_option maxRecDepth 100000 in
theorem it_X5 : Cond.instantiable RX5 4 ∈ lw_good := lw_h2 31 rfl rfl
set_option maxRecDepth 100000 in
theorem ml_X11_93 : Cond.methodLinkNest RX11 93 yX5_init "BehindAnotherHearse" ∈ lw_nest := lw_ni 354 rfl rfl
set_option maxRecDepth 100000 in
theorem ml_X5_3 : Cond.methodLink RX5 3 objectInit ∈ lw_good := lw_h2 35 rfl rfl
set_option maxRecDepth 100000 in
theorem fl_X5_9 : Cond.fieldLink RX5 9 "BehindAnotherHearse$RuleReader" "waiting" "[I" ∈ lw_good := lw_h2 36 rfl rfl
set_option maxRecDepth 100000 in
theorem fl_X5_15 : Cond.fieldLink RX5 15 "BehindAnotherHearse$RuleReader" "waitingCount" "I" ∈ lw_good := lw_h2 37 rfl rfl
set_option maxRecDepth 100000 in
theorem fl_X5_19 : Cond.fieldLink RX5 19 "BehindAnotherHearse$RuleReader" "depth" "I" ∈ lw_good := lw_h2 38 rfl rfl
set_option maxRecDepth 100000 in
theorem fl_X5_22 : Cond.fieldLink RX5 22 "BehindAnotherHearse$RuleReader" "wantsThing" "Z" ∈ lw_good := lw_h2 39 rfl rfl
set_option maxRecDepth 100000 in
theorem cl_X11_102 : Cond.classLink RX11 102 RX2 ∈ lw_good := lw_h2 49 rfl rfl
set_option maxRecDepth 100000 in
theorem it_X2 : Cond.instantiable RX2 6 ∈ lw_good := lw_h2 50 rfl rfl
set_option maxRecDepth 100000 in
theorem ml_X11_104 : Cond.methodLinkNest RX11 104 yX2_init "BehindAnotherHearse" ∈ lw_nest := lw_ni 373 rfl rfl
set_option maxRecDepth 100000 in
theorem ml_X2_3 : Cond.methodLink RX2 3 objectInit ∈ lw_good := lw_h2 54 rfl rfl
set_option maxRecDepth 100000 in
theorem fl_X2_9 : Cond.fieldLink RX2 9 "BehindAnotherHearse$Law" "kinds" "[I" ∈ lw_good := lw_h2 55 rfl rfl
set_option maxRecDepth 100000 in
theorem fl_X2_15 : Cond.fieldLink RX2 15 "BehindAnotherHearse$Law" "values" "[I" ∈ lw_good := lw_h2 56 rfl rfl
set_option maxRecDepth 100000 in
theorem fl_X2_18 : Cond.fieldLink RX2 18 "BehindAnotherHearse$Law" "stack" "[I" ∈ lw_good := lw_h2 57 rfl rfl
set_option maxRecDepth 100000 in
theorem fl_X2_21 : Cond.fieldLink RX2 21 "BehindAnotherHearse$Law" "given" "[I" ∈ lw_good := lw_h2 58 rfl rfl
set_option maxRecDepth 100000 in
theorem fl_X2_24 : Cond.fieldLink RX2 24 "BehindAnotherHearse$Law" "size" "I" ∈ lw_good := lw_h2 59 rfl rfl
set_option maxRecDepth 100000 in
theorem fl_X2_28 : Cond.fieldLink RX2 28 "BehindAnotherHearse$Law" "lettersUsed" "I" ∈ lw_good := lw_h2 60 rfl rfl
set_option maxRecDepth 100000 in
theorem ml_X11_112 : Cond.methodLink RX11 112 yX2_becomePlain ∈ lw_good := lw_h2 74 rfl rfl
set_option maxRecDepth 100000 in
theorem ml_X2_31 : Cond.methodLink RX2 31 yX2_clear ∈ lw_good := lw_h2 78 rfl rfl
set_option maxRecDepth 100000 in
theorem ml_X2_34 : Cond.methodLink RX2 34 yX2_add ∈ lw_good := lw_h2 82 rfl rfl
set_option maxRecDepth 100000 in
theorem ml_X2_38 : Cond.methodLink RX2 38 yX2_addLetter ∈ lw_good := lw_h2 86 rfl rfl
set_option maxRecDepth 100000 in
theorem fl_X11_10 : Cond.fieldLink RX11 10 "BehindAnotherHearse" "text" "LBehindAnotherHearse$Text;" ∈ lw_good := lw_h2 90 rfl rfl
set_option maxRecDepth 100000 in
theorem fl_X11_19 : Cond.fieldLink RX11 19 "BehindAnotherHearse" "street" "LBehindAnotherHearse$Street;" ∈ lw_good := lw_h2 91 rfl rfl
set_option maxRecDepth 100000 in
theorem fl_X11_26 : Cond.fieldLink RX11 26 "BehindAnotherHearse" "now" "LBehindAnotherHearse$Scene;" ∈ lw_good := lw_h2 92 rfl rfl
set_option maxRecDepth 100000 in
theorem fl_X11_30 : Cond.fieldLink RX11 30 "BehindAnotherHearse" "trial" "LBehindAnotherHearse$Scene;" ∈ lw_good := lw_h2 93 rfl rfl
set_option maxRecDepth 100000 in
theorem fl_X11_33 : Cond.fieldLink RX11 33 "BehindAnotherHearse" "base" "LBehindAnotherHearse$Scene;" ∈ lw_good := lw_h2 94 rfl rfl
set_option maxRecDepth 100000 in
theorem fl_X11_36 : Cond.fieldLink RX11 36 "BehindAnotherHearse" "before" "LBehindAnotherHearse$Scene;" ∈ lw_good := lw_h2 95 rfl rfl
set_option maxRecDepth 100000 in
theorem fl_X11_44 : Cond.fieldLink RX11 44 "BehindAnotherHearse" "walker" "LBehindAnotherHearse$Walker;" ∈ lw_good := lw_h2 96 rfl rfl
set_option maxRecDepth 100000 in
theorem fl_X11_51 : Cond.fieldLink RX11 51 "BehindAnotherHearse" "history" "LBehindAnotherHearse$History;" ∈ lw_good := lw_h2 97 rfl rfl
set_option maxRecDepth 100000 in
theorem fl_X11_55 : Cond.fieldLink RX11 55 "BehindAnotherHearse" "kept" "[LBehindAnotherHearse$Scene;" ∈ lw_good := lw_h2 98 rfl rfl
set_option maxRecDepth 100000 in
theorem fl_X11_59 : Cond.fieldLink RX11 59 "BehindAnotherHearse" "isKept" "[Z" ∈ lw_good := lw_h2 99 rfl rfl
set_option maxRecDepth 100000 in
theorem fl_X11_66 : Cond.fieldLink RX11 66 "BehindAnotherHearse" "told" "LBehindAnotherHearse$Row;" ∈ lw_good := lw_h2 100 rfl rfl
set_option maxRecDepth 100000 in
theorem fl_X11_73 : Cond.fieldLink RX11 73 "BehindAnotherHearse" "sharing" "LBehindAnotherHearse$Sharing;" ∈ lw_good := lw_h2 101 rfl rfl
set_option maxRecDepth 100000 in
theorem fl_X11_80 : Cond.fieldLink RX11 80 "BehindAnotherHearse" "orders" "LBehindAnotherHearse$Orders;" ∈ lw_good := lw_h2 102 rfl rfl
set_option maxRecDepth 100000 in
theorem fl_X11_87 : Cond.fieldLink RX11 87 "BehindAnotherHearse" "hearsay" "LBehindAnotherHearse$Hearsay;" ∈ lw_good := lw_h2 103 rfl rfl
set_option maxRecDepth 100000 in
theorem fl_X11_94 : Cond.fieldLink RX11 94 "BehindAnotherHearse" "ruleReader" "LBehindAnotherHearse$RuleReader;" ∈ lw_good := lw_h2 104 rfl rfl
set_option maxRecDepth 100000 in
theorem fl_X11_98 : Cond.fieldLink RX11 98 "BehindAnotherHearse" "drawn" "I" ∈ lw_good := lw_h2 105 rfl rfl
set_option maxRecDepth 100000 in
theorem fl_X11_105 : Cond.fieldLink RX11 105 "BehindAnotherHearse" "rules" "LBehindAnotherHearse$Law;" ∈ lw_good := lw_h2 106 rfl rfl
set_option maxRecDepth 100000 in
theorem fl_X11_109 : Cond.fieldLink RX11 109 "BehindAnotherHearse" "otherRules" "LBehindAnotherHearse$Law;" ∈ lw_good := lw_h2 107 rfl rfl
set_option maxRecDepth 100000 in
theorem ml_L_26 : Cond.methodLink RL 26 yX11_sign ∈ lw_good := lw_h2 145 rfl rfl
set_option maxRecDepth 100000 in
theorem ml_X11_115 : Cond.methodLink RX11 115 yX9_addFour ∈ lw_good := lw_h2 149 rfl rfl
set_option maxRecDepth 100000 in
theorem ml_L_31 : Cond.methodLink RL 31 yX11_end ∈ lw_good := lw_h2 153 rfl rfl
set_option maxRecDepth 100000 in
theorem ml_X11_122 : Cond.methodLink RX11 122 yX9_cutTo ∈ lw_good := lw_h2 157 rfl rfl
set_option maxRecDepth 100000 in
theorem ml_L_36 : Cond.methodLink RL 36 yX11_avenue ∈ lw_good := lw_h2 161 rfl rfl
set_option maxRecDepth 100000 in
theorem ml_X11_125 : Cond.methodLink RX11 125 yX11_avenueFault ∈ lw_good := lw_h2 165 rfl rfl
set_option maxRecDepth 100000 in
theorem ml_X11_141 : Cond.methodLink RX11 141 yX9_signAt ∈ lw_good := lw_h2 169 rfl rfl
set_option maxRecDepth 100000 in
theorem ml_X11_129 : Cond.methodLink RX11 129 yX8_become ∈ lw_good := lw_h2 173 rfl rfl
set_option maxRecDepth 100000 in
theorem ml_X8_30 : Cond.methodLink RX8 30 yX9_signAt ∈ lw_good := lw_h2 177 rfl rfl
set_option maxRecDepth 100000 in
theorem ml_X11_133 : Cond.methodLink RX11 133 yX6_clear ∈ lw_good := lw_h2 178 rfl rfl
set_option maxRecDepth 100000 in
theorem ml_X11_136 : Cond.methodLink RX11 136 yX1_clear ∈ lw_good := lw_h2 182 rfl rfl
set_option maxRecDepth 100000 in
theorem ml_X11_137 : Cond.methodLink RX11 137 yX11_forgetKept ∈ lw_good := lw_h2 186 rfl rfl
set_option maxRecDepth 100000 in
theorem ml_X11_140 : Cond.methodLink RX11 140 yX9_clear ∈ lw_good := lw_h2 190 rfl rfl
set_option maxRecDepth 100000 in
theorem ml_L_41 : Cond.methodLink RL 41 yX11_hearses ∈ lw_good := lw_h2 194 rfl rfl
set_option maxRecDepth 100000 in
theorem ml_X11_145 : Cond.methodLink RX11 145 yX9_isEmpty ∈ lw_good := lw_h2 198 rfl rfl
set_option maxRecDepth 100000 in
theorem ml_X11_149 : Cond.methodLink RX11 149 yX11_readLines ∈ lw_good := lw_h2 202 rfl rfl
set_option maxRecDepth 100000 in
theorem ml_X11_153 : Cond.methodLink RX11 153 yX6_copyFrom ∈ lw_good := lw_h2 206 rfl rfl
set_option maxRecDepth 100000 in
theorem ml_X6_46 : Cond.methodLink RX6 46 arraycopyName ∈ lw_good := lw_h2 210 rfl rfl
set_option maxRecDepth 100000 in
theorem sm_arraycopy : Cond.static arraycopyName ∈ lw_good := lw_h2 211 rfl rfl
set_option maxRecDepth 100000 in
theorem nm_arraycopy : Cond.native arraycopyName ∈ lw_good := lw_h2 212 rfl rfl
set_option maxRecDepth 100000 in
theorem ml_X11_157 : Cond.methodLink RX11 157 yX9_open ∈ lw_good := lw_h2 213 rfl rfl
set_option maxRecDepth 100000 in
theorem ml_X9_25 : Cond.methodLink RX9 25 yJ9_min_7cf53 ∈ lw_good := lw_h2 217 rfl rfl
set_option maxRecDepth 100000 in
theorem sm_min : Cond.static yJ9_min_7cf53 ∈ lw_good := lw_h2 218 rfl rfl
set_option maxRecDepth 100000 in
theorem cd_min : Cond.code Lib.Math.min.name Lib.Math.min.code 2 (some .int) ∈ lw_good := lw_h2 219 rfl rfl
set_option maxRecDepth 100000 in
theorem ml_X11_161 : Cond.methodLink RX11 161 yX11_readHearse ∈ lw_good := lw_h2 220 rfl rfl
set_option maxRecDepth 100000 in
theorem ml_X11_179 : Cond.methodLink RX11 179 yX11_readCell ∈ lw_good := lw_h2 224 rfl rfl
set_option maxRecDepth 100000 in
theorem ml_X11_204 : Cond.methodLink RX11 204 yX9_number ∈ lw_good := lw_h2 228 rfl rfl
set_option maxRecDepth 100000 in
theorem ml_X9_38 : Cond.methodLink RX9 38 yX9_digit ∈ lw_good := lw_h2 232 rfl rfl
set_option maxRecDepth 100000 in
theorem ml_X9_31 : Cond.methodLink RX9 31 yX9_look ∈ lw_good := lw_h2 236 rfl rfl
set_option maxRecDepth 100000 in
theorem ml_X9_35 : Cond.methodLink RX9 35 yX9_pass ∈ lw_good := lw_h3 0 rfl rfl
set_option maxRecDepth 100000 in
theorem ml_X11_207 : Cond.methodLink RX11 207 yX8_gate ∈ lw_good := lw_h3 4 rfl rfl
set_option maxRecDepth 100000 in
theorem ml_X11_185 : Cond.methodLink RX11 185 yX9_back ∈ lw_good := lw_h3 8 rfl rfl
set_option maxRecDepth 100000 in
theorem ml_X11_182 : Cond.methodLink RX11 182 yX6_hearseOn ∈ lw_good := lw_h3 12 rfl rfl
set_option maxRecDepth 100000 in
theorem ml_X11_188 : Cond.methodLink RX11 188 yX6_addHearse ∈ lw_good := lw_h3 16 rfl rfl
set_option maxRecDepth 100000 in
theorem ml_X11_164 : Cond.methodLink RX11 164 yX11_readMourner ∈ lw_good := lw_h3 20 rfl rfl
set_option maxRecDepth 100000 in
theorem ml_X11_194 : Cond.methodLink RX11 194 yX9_look ∈ lw_good := lw_h3 24 rfl rfl
set_option maxRecDepth 100000 in
theorem ml_X11_197 : Cond.methodLink RX11 197 yX9_pass ∈ lw_good := lw_h3 25 rfl rfl
set_option maxRecDepth 100000 in
theorem ml_X11_200 : Cond.methodLink RX11 200 yX6_addMourner ∈ lw_good := lw_h3 26 rfl rfl
set_option maxRecDepth 100000 in
theorem ml_X11_170 : Cond.methodLink RX11 170 yX9_skip ∈ lw_good := lw_h3 30 rfl rfl
set_option maxRecDepth 100000 in
theorem ml_X11_173 : Cond.methodLink RX11 173 yX9_isWhole ∈ lw_good := lw_h3 34 rfl rfl
set_option maxRecDepth 100000 in
theorem ml_L_45 : Cond.methodLink RL 45 yX11_mourners ∈ lw_good := lw_h3 38 rfl rfl
set_option maxRecDepth 100000 in
theorem ml_L_49 : Cond.methodLink RL 49 yX11_weather ∈ lw_good := lw_h3 42 rfl rfl
set_option maxRecDepth 100000 in
theorem ml_X11_210 : Cond.methodLink RX11 210 yX11_weatherFault ∈ lw_good := lw_h3 46 rfl rfl
set_option maxRecDepth 100000 in
theorem ml_X11_213 : Cond.methodLink RX11 213 yX8_takeWeather ∈ lw_good := lw_h3 50 rfl rfl
set_option maxRecDepth 100000 in
theorem ml_L_53 : Cond.methodLink RL 53 yX11_rule ∈ lw_good := lw_h3 54 rfl rfl
set_option maxRecDepth 100000 in
theorem ml_X11_216 : Cond.methodLink RX11 216 yX5_read ∈ lw_good := lw_h3 58 rfl rfl
set_option maxRecDepth 100000 in
theorem ml_X5_26 : Cond.methodLink RX5 26 yX9_isEmpty ∈ lw_good := lw_h3 62 rfl rfl
set_option maxRecDepth 100000 in
theorem ml_X5_32 : Cond.methodLink RX5 32 yX2_becomePlain ∈ lw_good := lw_h3 63 rfl rfl
set_option maxRecDepth 100000 in
theorem ml_X5_37 : Cond.methodLink RX5 37 yX2_clear ∈ lw_good := lw_h3 64 rfl rfl
set_option maxRecDepth 100000 in
theorem ml_X5_40 : Cond.methodLink RX5 40 yX9_open ∈ lw_good := lw_h3 65 rfl rfl
set_option maxRecDepth 100000 in
theorem ml_X5_44 : Cond.methodLink RX5 44 yX9_isRead ∈ lw_good := lw_h3 66 rfl rfl
set_option maxRecDepth 100000 in
theorem ml_X5_47 : Cond.methodLink RX5 47 yX5_takeThing ∈ lw_good := lw_h3 70 rfl rfl
set_option maxRecDepth 100000 in
theorem ml_X5_64 : Cond.methodLink RX5 64 yX9_number ∈ lw_good := lw_h3 74 rfl rfl
set_option maxRecDepth 100000 in
theorem ml_X5_68 : Cond.methodLink RX5 68 yX2_add ∈ lw_good := lw_h3 75 rfl rfl
set_option maxRecDepth 100000 in
theorem ml_X5_72 : Cond.methodLink RX5 72 yX9_look ∈ lw_good := lw_h3 76 rfl rfl
set_option maxRecDepth 100000 in
theorem ml_X5_76 : Cond.methodLink RX5 76 yX5_hold ∈ lw_good := lw_h3 77 rfl rfl
set_option maxRecDepth 100000 in
theorem ml_X5_81 : Cond.methodLink RX5 81 yJ0_indexOf_0f7a4 ∈ lw_good := lw_h3 82 rfl rfl
set_option maxRecDepth 100000 in
theorem ml_J0_633 : Cond.methodLink RJ0 633 yJ0_indexOf_7cf53 ∈ lw_good := lw_h3 86 rfl rfl
set_option maxRecDepth 100000 in
theorem ml_J0_492 : Cond.methodLink RJ0 492 yJ0_isLatin1_aae02 ∈ lw_good := lw_h3 90 rfl rfl
set_option maxRecDepth 100000 in
theorem ml_J0_505 : Cond.methodLink RJ0 505 yJ0_length_8abf5 ∈ lw_good := lw_h3 96 rfl rfl
set_option maxRecDepth 100000 in
theorem ml_J0_335 : Cond.methodLink RJ0 335 yJ0_coder_7d493 ∈ lw_good := lw_h3 100 rfl rfl
set_option maxRecDepth 100000 in
theorem ml_J0_637 : Cond.methodLink RJ0 637 yJ1_indexOf_4cfef ∈ lw_good := lw_h3 104 rfl rfl
set_option maxRecDepth 100000 in
theorem ml_J1_88 : Cond.methodLink RJ1 88 yJ1_canEncode_9a6ad ∈ lw_good := lw_h3 107 rfl rfl
set_option maxRecDepth 100000 in
theorem ml_J1_92 : Cond.methodLink RJ1 92 yJ9_max_7cf53 ∈ lw_good := lw_h3 110 rfl rfl
set_option maxRecDepth 100000 in
theorem sm_max : Cond.static yJ9_max_7cf53 ∈ lw_good := lw_h3 111 rfl rfl
set_option maxRecDepth 100000 in
theorem cd_max : Cond.code Lib.Math.max.name Lib.Math.max.code 2 (some .int) ∈ lw_good := lw_h3 112 rfl rfl
set_option maxRecDepth 100000 in
theorem ml_J1_38 : Cond.methodLink RJ1 38 yJ9_min_7cf53 ∈ lw_good := lw_h3 113 rfl rfl
set_option maxRecDepth 100000 in
theorem ml_J1_95 : Cond.methodLink RJ1 95 yJ1_indexOfChar_4cfef ∈ lw_good := lw_h3 114 rfl rfl
set_option maxRecDepth 100000 in
theorem ml_J0_1062 : Cond.methodLink RJ0 1062 yJ3_checkFromToIndex_8c36e ∈ lw_good := lw_h3 137 rfl rfl
set_option maxRecDepth 100000 in
theorem ml_X5_86 : Cond.methodLink RX5 86 yX2_addLetter ∈ lw_good := lw_h3 166 rfl rfl
set_option maxRecDepth 100000 in
theorem ml_X5_89 : Cond.methodLink RX5 89 yX9_pass ∈ lw_good := lw_h3 167 rfl rfl
set_option maxRecDepth 100000 in
theorem ml_X5_51 : Cond.methodLink RX5 51 yX5_takeSign ∈ lw_good := lw_h3 168 rfl rfl
set_option maxRecDepth 100000 in
theorem ml_X5_92 : Cond.methodLink RX5 92 yX5_bindingOf ∈ lw_good := lw_h3 172 rfl rfl
set_option maxRecDepth 100000 in
theorem ml_X5_60 : Cond.methodLink RX5 60 yX5_release ∈ lw_good := lw_h3 175 rfl rfl
set_option maxRecDepth 100000 in
theorem ml_X5_95 : Cond.methodLink RX5 95 yX5_latestBinding ∈ lw_good := lw_h3 179 rfl rfl
set_option maxRecDepth 100000 in
theorem ml_X5_57 : Cond.methodLink RX5 57 yX9_isWhole ∈ lw_good := lw_h3 183 rfl rfl
set_option maxRecDepth 100000 in
theorem ac_byte : Cond.arrayClass .byte ∈ lw_good := lw_h3 184 rfl rfl
set_option maxRecDepth 100000 in
theorem ml_L_66 : Cond.methodLink RL 66 yX11_sheet ∈ lw_good := lw_h3 185 rfl rfl
set_option maxRecDepth 100000 in
theorem ml_X11_278 : Cond.methodLink RX11 278 yX6_hasEnded ∈ lw_good := lw_h3 189 rfl rfl
set_option maxRecDepth 100000 in
theorem ml_X11_281 : Cond.methodLink RX11 281 yX11_cellOfEntry ∈ lw_good := lw_h3 193 rfl rfl
set_option maxRecDepth 100000 in
theorem ml_X11_285 : Cond.methodLink RX11 285 yX8_putOnStreet ∈ lw_good := lw_h3 197 rfl rfl
set_option maxRecDepth 100000 in
theorem ml_X8_34 : Cond.methodLink RX8 34 yX8_gate ∈ lw_good := lw_h3 201 rfl rfl
set_option maxRecDepth 100000 in
theorem ml_X8_38 : Cond.methodLink RX8 38 yJ9_min_7cf53 ∈ lw_good := lw_h3 202 rfl rfl
set_option maxRecDepth 100000 in
theorem ml_X8_44 : Cond.methodLink RX8 44 yJ9_max_7cf53 ∈ lw_good := lw_h3 203 rfl rfl
set_option maxRecDepth 100000 in
theorem ml_L_71 : Cond.methodLink RL 71 yX11_steps ∈ lw_good := lw_h3 204 rfl rfl
set_option maxRecDepth 100000 in
theorem ml_X11_288 : Cond.methodLink RX11 288 yX10_walk ∈ lw_good := lw_h3 208 rfl rfl
set_option maxRecDepth 100000 in
theorem ml_X10_33 : Cond.methodLink RX10 33 yX10_forgetTallies ∈ lw_good := lw_h3 212 rfl rfl
set_option maxRecDepth 100000 in
theorem ml_X10_36 : Cond.methodLink RX10 36 yX10_advance ∈ lw_good := lw_h3 216 rfl rfl
set_option maxRecDepth 100000 in
theorem ml_X10_65 : Cond.methodLink RX10 65 yX6_foremostBelow ∈ lw_good := lw_h3 220 rfl rfl
set_option maxRecDepth 100000 in
theorem ml_X10_72 : Cond.methodLink RX10 72 yX10_moveHearse ∈ lw_good := lw_h3 224 rfl rfl
set_option maxRecDepth 100000 in
theorem ml_X10_87 : Cond.methodLink RX10 87 yX2_observe ∈ lw_good := lw_h3 228 rfl rfl
set_option maxRecDepth 100000 in
theorem ml_X2_42 : Cond.methodLink RX2 42 yX2_uses ∈ lw_good := lw_h3 232 rfl rfl
set_option maxRecDepth 100000 in
theorem ml_X2_56 : Cond.methodLink RX2 56 yX8_gate ∈ lw_good := lw_h3 236 rfl rfl
set_option maxRecDepth 100000 in
theorem ml_X2_60 : Cond.methodLink RX2 60 yX6_freeAhead ∈ lw_good := lw_h3 237 rfl rfl
set_option maxRecDepth 100000 in
theorem ml_X2_64 : Cond.methodLink RX2 64 yX8_isCorner ∈ lw_good := lw_h4 1 rfl rfl
set_option maxRecDepth 100000 in
theorem ml_X2_70 : Cond.methodLink RX2 70 yX8_weatherAt ∈ lw_good := lw_h4 5 rfl rfl
set_option maxRecDepth 100000 in
theorem ml_X2_77 : Cond.methodLink RX2 77 yX6_bitsOf ∈ lw_good := lw_h4 9 rfl rfl
set_option maxRecDepth 100000 in
theorem ml_X2_81 : Cond.methodLink RX2 81 yJ6_bitCount_0f7a4 ∈ lw_good := lw_h4 13 rfl rfl
set_option maxRecDepth 100000 in
theorem ct_J6_265 : Cond.constant RJ6 265 (1431655765) ∈ lw_good := lw_h4 16 rfl rfl
set_option maxRecDepth 100000 in
theorem ct_J6_266 : Cond.constant RJ6 266 (858993459) ∈ lw_good := lw_h4 17 rfl rfl
set_option maxRecDepth 100000 in
theorem ct_J6_267 : Cond.constant RJ6 267 (252645135) ∈ lw_good := lw_h4 18 rfl rfl
set_option maxRecDepth 100000 in
theorem ml_X10_91 : Cond.methodLink RX10 91 yX6_takenCells ∈ lw_good := lw_h4 19 rfl rfl
set_option maxRecDepth 100000 in
theorem ml_X10_95 : Cond.methodLink RX10 95 yX2_pace ∈ lw_good := lw_h4 23 rfl rfl
set_option maxRecDepth 100000 in
theorem ml_X2_86 : Cond.methodLink RX2 86 yX2_join ∈ lw_good := lw_h4 27 rfl rfl
set_option maxRecDepth 100000 in
theorem ml_X2_90 : Cond.methodLink RX2 90 yJ9_min_7cf53 ∈ lw_good := lw_h4 30 rfl rfl
set_option maxRecDepth 100000 in
theorem ml_X2_95 : Cond.methodLink RX2 95 yJ9_max_7cf53 ∈ lw_good := lw_h4 31 rfl rfl
set_option maxRecDepth 100000 in
theorem ml_X10_98 : Cond.methodLink RX10 98 yX10_goal ∈ lw_good := lw_h4 32 rfl rfl
set_option maxRecDepth 100000 in
theorem ml_X10_102 : Cond.methodLink RX10 102 yX8_gate ∈ lw_good := lw_h4 36 rfl rfl
set_option maxRecDepth 100000 in
theorem ml_X10_109 : Cond.methodLink RX10 109 yJ9_min_7cf53 ∈ lw_good := lw_h4 37 rfl rfl
set_option maxRecDepth 100000 in
theorem ml_X10_105 : Cond.methodLink RX10 105 yX6_arrive ∈ lw_good := lw_h4 38 rfl rfl
set_option maxRecDepth 100000 in
theorem ml_X10_76 : Cond.methodLink RX10 76 yX6_hasEnded ∈ lw_good := lw_h4 42 rfl rfl
set_option maxRecDepth 100000 in
theorem ml_X10_80 : Cond.methodLink RX10 80 yX10_moveMourner ∈ lw_good := lw_h4 43 rfl rfl
set_option maxRecDepth 100000 in
theorem ml_X10_121 : Cond.methodLink RX10 121 yX6_hasArrived ∈ lw_good := lw_h4 47 rfl rfl
set_option maxRecDepth 100000 in
theorem ml_X10_124 : Cond.methodLink RX10 124 yX6_endAt ∈ lw_good := lw_h4 51 rfl rfl
set_option maxRecDepth 100000 in
theorem ml_X10_131 : Cond.methodLink RX10 131 yX6_nearestTo ∈ lw_good := lw_h4 55 rfl rfl
set_option maxRecDepth 100000 in
theorem ml_X6_75 : Cond.methodLink RX6 75 yJ9_abs_0f7a4 ∈ lw_good := lw_h4 59 rfl rfl
set_option maxRecDepth 100000 in
theorem sm_abs : Cond.static yJ9_abs_0f7a4 ∈ lw_good := lw_h4 60 rfl rfl
set_option maxRecDepth 100000 in
theorem cd_abs : Cond.code Lib.Math.abs.name Lib.Math.abs.code 1 (some .int) ∈ lw_good := lw_h4 61 rfl rfl
set_option maxRecDepth 100000 in
theorem ml_X10_134 : Cond.methodLink RX10 134 yJ9_abs_0f7a4 ∈ lw_good := lw_h4 62 rfl rfl
set_option maxRecDepth 100000 in
theorem ml_X10_137 : Cond.methodLink RX10 137 yJ9_max_7cf53 ∈ lw_good := lw_h4 63 rfl rfl
set_option maxRecDepth 100000 in
theorem ml_X11_298 : Cond.methodLink RX11 298 yX4_tellTwo ∈ lw_good := lw_h4 64 rfl rfl
set_option maxRecDepth 100000 in
theorem ml_X4_19 : Cond.methodLink RX4 19 yX4_clear ∈ lw_good := lw_h4 68 rfl rfl
set_option maxRecDepth 100000 in
theorem ml_X4_22 : Cond.methodLink RX4 22 yX4_add ∈ lw_good := lw_h4 72 rfl rfl
set_option maxRecDepth 100000 in
theorem ml_X11_305 : Cond.methodLink RX11 305 yX11_undoable ∈ lw_good := lw_h4 76 rfl rfl
set_option maxRecDepth 100000 in
theorem ml_X11_318 : Cond.methodLink RX11 318 yX11_isDone ∈ lw_good := lw_h4 80 rfl rfl
set_option maxRecDepth 100000 in
theorem ml_X11_321 : Cond.methodLink RX11 321 yX1_add ∈ lw_good := lw_h4 83 rfl rfl
set_option maxRecDepth 100000 in
theorem ml_X1_25 : Cond.methodLink RX1 25 yX6_copyFrom ∈ lw_good := lw_h4 87 rfl rfl
set_option maxRecDepth 100000 in
theorem ml_L_75 : Cond.methodLink RL 75 yX11_turnsTo ∈ lw_good := lw_h4 88 rfl rfl
set_option maxRecDepth 100000 in
theorem ml_X11_308 : Cond.methodLink RX11 308 yX6_turn ∈ lw_good := lw_h4 92 rfl rfl
set_option maxRecDepth 100000 in
theorem ml_X6_60 : Cond.methodLink RX6 60 yX6_isMourner ∈ lw_good := lw_h4 96 rfl rfl
set_option maxRecDepth 100000 in
theorem ml_X6_63 : Cond.methodLink RX6 63 yX6_hasEnded ∈ lw_good := lw_h4 100 rfl rfl
set_option maxRecDepth 100000 in
theorem ml_X6_56 : Cond.methodLink RX6 56 yX6_hasArrived ∈ lw_good := lw_h4 101 rfl rfl
set_option maxRecDepth 100000 in
theorem ml_L_79 : Cond.methodLink RL 79 yX11_pushes ∈ lw_good := lw_h4 102 rfl rfl
set_option maxRecDepth 100000 in
theorem ml_X11_311 : Cond.methodLink RX11 311 yX6_shove ∈ lw_good := lw_h4 106 rfl rfl
set_option maxRecDepth 100000 in
theorem ml_X6_66 : Cond.methodLink RX6 66 yX8_putOnStreet ∈ lw_good := lw_h4 110 rfl rfl
set_option maxRecDepth 100000 in
theorem ml_L_83 : Cond.methodLink RL 83 yX11_swaps ∈ lw_good := lw_h4 111 rfl rfl
set_option maxRecDepth 100000 in
theorem ml_X11_315 : Cond.methodLink RX11 315 yX6_exchange ∈ lw_good := lw_h4 115 rfl rfl
set_option maxRecDepth 100000 in
theorem ml_X6_72 : Cond.methodLink RX6 72 yX6_isHearse ∈ lw_good := lw_h4 119 rfl rfl
set_option maxRecDepth 100000 in
theorem ml_L_87 : Cond.methodLink RL 87 yX11_hour ∈ lw_good := lw_h4 123 rfl rfl
set_option maxRecDepth 100000 in
theorem ml_X11_324 : Cond.methodLink RX11 324 yX11_hourFault ∈ lw_good := lw_h4 127 rfl rfl
set_option maxRecDepth 100000 in
theorem ml_X11_327 : Cond.methodLink RX11 327 yX9_isRead ∈ lw_good := lw_h4 131 rfl rfl
set_option maxRecDepth 100000 in
theorem ml_X11_336 : Cond.methodLink RX11 336 yX11_passAct ∈ lw_good := lw_h4 132 rfl rfl
set_option maxRecDepth 100000 in
theorem ml_X11_339 : Cond.methodLink RX11 339 yX9_digit ∈ lw_good := lw_h4 136 rfl rfl
set_option maxRecDepth 100000 in
theorem ml_X11_330 : Cond.methodLink RX11 330 yX11_doAct ∈ lw_good := lw_h4 137 rfl rfl
set_option maxRecDepth 100000 in
theorem ml_L_91 : Cond.methodLink RL 91 yX11_undo ∈ lw_good := lw_h4 141 rfl rfl
set_option maxRecDepth 100000 in
theorem ml_X11_342 : Cond.methodLink RX11 342 yX1_takeBack ∈ lw_good := lw_h4 145 rfl rfl
set_option maxRecDepth 100000 in
theorem ml_L_95 : Cond.methodLink RL 95 yX11_line ∈ lw_good := lw_h4 149 rfl rfl
set_option maxRecDepth 100000 in
theorem ml_X11_349 : Cond.methodLink RX11 349 yX4_clear ∈ lw_good := lw_h4 153 rfl rfl
set_option maxRecDepth 100000 in
theorem ml_X11_353 : Cond.methodLink RX11 353 yX6_foremostBelow ∈ lw_good := lw_h4 154 rfl rfl
set_option maxRecDepth 100000 in
theorem ml_X11_356 : Cond.methodLink RX11 356 yX4_add ∈ lw_good := lw_h4 155 rfl rfl
set_option maxRecDepth 100000 in
theorem ml_L_99 : Cond.methodLink RL 99 yX11_ahead ∈ lw_good := lw_h4 156 rfl rfl
set_option maxRecDepth 100000 in
theorem ml_L_103 : Cond.methodLink RL 103 yX11_arrives ∈ lw_good := lw_h4 160 rfl rfl
set_option maxRecDepth 100000 in
theorem ml_X11_220 : Cond.methodLink RX11 220 yX6_isHearse ∈ lw_good := lw_h4 164 rfl rfl
set_option maxRecDepth 100000 in
theorem ml_X11_255 : Cond.methodLink RX11 255 yX6_hasArrived ∈ lw_good := lw_h4 165 rfl rfl
set_option maxRecDepth 100000 in
theorem ml_X11_362 : Cond.methodLink RX11 362 yX10_advance ∈ lw_good := lw_h4 166 rfl rfl
set_option maxRecDepth 100000 in
theorem ml_X11_366 : Cond.methodLink RX11 366 yX4_tellOne ∈ lw_good := lw_h4 167 rfl rfl
set_option maxRecDepth 100000 in
theorem ml_L_107 : Cond.methodLink RL 107 yX11_jam ∈ lw_good := lw_h4 171 rfl rfl
set_option maxRecDepth 100000 in
theorem ml_L_111 : Cond.methodLink RL 111 yX11_passes ∈ lw_good := lw_h4 175 rfl rfl
set_option maxRecDepth 100000 in
theorem ml_X11_372 : Cond.methodLink RX11 372 yX6_isAheadOf ∈ lw_good := lw_h4 179 rfl rfl
set_option maxRecDepth 100000 in
theorem ml_L_115 : Cond.methodLink RL 115 yX11_ends ∈ lw_good := lw_h4 183 rfl rfl
set_option maxRecDepth 100000 in
theorem ml_X11_265 : Cond.methodLink RX11 265 yX6_isMourner ∈ lw_good := lw_h4 187 rfl rfl
set_option maxRecDepth 100000 in
theorem ml_X11_376 : Cond.methodLink RX11 376 yX10_forgetTallies ∈ lw_good := lw_h4 188 rfl rfl
set_option maxRecDepth 100000 in
theorem ml_L_119 : Cond.methodLink RL 119 yX11_right ∈ lw_good := lw_h4 189 rfl rfl
set_option maxRecDepth 100000 in
theorem ml_X11_382 : Cond.methodLink RX11 382 yX11_rightOnesOfTrial ∈ lw_good := lw_h4 193 rfl rfl
set_option maxRecDepth 100000 in
theorem ml_X11_394 : Cond.methodLink RX11 394 yX10_toEnd ∈ lw_good := lw_h4 197 rfl rfl
set_option maxRecDepth 100000 in
theorem ml_X10_40 : Cond.methodLink RX10 40 yX2_period ∈ lw_good := lw_h4 201 rfl rfl
set_option maxRecDepth 100000 in
theorem ml_X11_397 : Cond.methodLink RX11 397 yX6_rightBits ∈ lw_good := lw_h4 205 rfl rfl
set_option maxRecDepth 100000 in
theorem ml_X6_86 : Cond.methodLink RX6 86 yX6_isRight ∈ lw_good := lw_h4 209 rfl rfl
set_option maxRecDepth 100000 in
theorem ml_X11_386 : Cond.methodLink RX11 386 yX6_wrongBits ∈ lw_good := lw_h4 213 rfl rfl
set_option maxRecDepth 100000 in
theorem ml_X11_389 : Cond.methodLink RX11 389 yJ6_bitCount_0f7a4 ∈ lw_good := lw_h4 217 rfl rfl
set_option maxRecDepth 100000 in
theorem ml_L_123 : Cond.methodLink RL 123 yX11_order ∈ lw_good := lw_h4 218 rfl rfl
set_option maxRecDepth 100000 in
theorem ml_X11_400 : Cond.methodLink RX11 400 yX3_begin ∈ lw_good := lw_h4 222 rfl rfl
set_option maxRecDepth 100000 in
theorem ml_X3_26 : Cond.methodLink RX3 26 yX6_hearseOn ∈ lw_good := lw_h4 226 rfl rfl
set_option maxRecDepth 100000 in
theorem ml_X11_406 : Cond.methodLink RX11 406 yX6_placeHearses ∈ lw_good := lw_h4 227 rfl rfl
set_option maxRecDepth 100000 in
theorem ml_X11_410 : Cond.methodLink RX11 410 yX3_markBest ∈ lw_good := lw_h4 231 rfl rfl
set_option maxRecDepth 100000 in
theorem ml_X3_32 : Cond.methodLink RX3 32 arraycopyName ∈ lw_good := lw_h4 235 rfl rfl
set_option maxRecDepth 100000 in
theorem ml_X11_413 : Cond.methodLink RX11 413 yX3_toNext ∈ lw_good := lw_h4 236 rfl rfl
set_option maxRecDepth 100000 in
theorem ml_X3_38 : Cond.methodLink RX3 38 yX3_exchangeCells ∈ lw_good := lw_h5 0 rfl rfl
set_option maxRecDepth 100000 in
theorem ml_L_127 : Cond.methodLink RL 127 yX11_stands ∈ lw_good := lw_h5 4 rfl rfl
set_option maxRecDepth 100000 in
theorem ml_X11_420 : Cond.methodLink RX11 420 yX6_isRight ∈ lw_good := lw_h5 8 rfl rfl
set_option maxRecDepth 100000 in
theorem ml_L_131 : Cond.methodLink RL 131 yX11_when ∈ lw_good := lw_h5 9 rfl rfl
set_option maxRecDepth 100000 in
theorem ml_X11_423 : Cond.methodLink RX11 423 yX11_isTurned ∈ lw_good := lw_h5 13 rfl rfl
set_option maxRecDepth 100000 in
theorem ml_L_135 : Cond.methodLink RL 135 yX11_mends ∈ lw_good := lw_h5 17 rfl rfl
set_option maxRecDepth 100000 in
theorem ml_X11_426 : Cond.methodLink RX11 426 yX11_ableToTurn ∈ lw_good := lw_h5 21 rfl rfl
set_option maxRecDepth 100000 in
theorem ml_X11_429 : Cond.methodLink RX11 429 yX11_turnInTrial ∈ lw_good := lw_h5 25 rfl rfl
set_option maxRecDepth 100000 in
theorem ml_L_139 : Cond.methodLink RL 139 yX11_misleads ∈ lw_good := lw_h5 29 rfl rfl
set_option maxRecDepth 100000 in
theorem ml_X11_432 : Cond.methodLink RX11 432 yX6_takeAway ∈ lw_good := lw_h5 33 rfl rfl
set_option maxRecDepth 100000 in
theorem ml_X6_52 : Cond.methodLink RX6 52 yX6_arrive ∈ lw_good := lw_h5 37 rfl rfl
set_option maxRecDepth 100000 in
theorem ml_X11_243 : Cond.methodLink RX11 243 yX6_bitsOf ∈ lw_good := lw_h5 38 rfl rfl
set_option maxRecDepth 100000 in
theorem ml_X11_435 : Cond.methodLink RX11 435 yJ9_max_7cf53 ∈ lw_good := lw_h5 39 rfl rfl
set_option maxRecDepth 100000 in
theorem ml_L_143 : Cond.methodLink RL 143 yX11_crowd ∈ lw_good := lw_h5 40 rfl rfl
set_option maxRecDepth 100000 in
theorem ml_L_147 : Cond.methodLink RL 147 yX11_shares ∈ lw_good := lw_h5 44 rfl rfl
set_option maxRecDepth 100000 in
theorem ml_X11_440 : Cond.methodLink RX11 440 yX7_weigh ∈ lw_good := lw_h5 48 rfl rfl
set_option maxRecDepth 100000 in
theorem ml_X7_28 : Cond.methodLink RX7 28 yX7_mostFrom ∈ lw_good := lw_h5 52 rfl rfl
set_option maxRecDepth 100000 in
theorem ml_X7_32 : Cond.methodLink RX7 32 yX7_canHave ∈ lw_good := lw_h5 56 rfl rfl
set_option maxRecDepth 100000 in
theorem ml_X7_42 : Cond.methodLink RX7 42 yX6_hasEnded ∈ lw_good := lw_h5 60 rfl rfl
set_option maxRecDepth 100000 in
theorem ml_X7_46 : Cond.methodLink RX7 46 yX6_hasArrived ∈ lw_good := lw_h5 61 rfl rfl
set_option maxRecDepth 100000 in
theorem ml_X7_56 : Cond.methodLink RX7 56 yJ9_abs_0f7a4 ∈ lw_good := lw_h5 62 rfl rfl
set_option maxRecDepth 100000 in
theorem ml_X7_36 : Cond.methodLink RX7 36 yJ9_max_7cf53 ∈ lw_good := lw_h5 63 rfl rfl
set_option maxRecDepth 100000 in
theorem ml_X11_444 : Cond.methodLink RX11 444 yX7_choice ∈ lw_good := lw_h5 64 rfl rfl
set_option maxRecDepth 100000 in
theorem ml_L_151 : Cond.methodLink RL 151 yX11_strangers ∈ lw_good := lw_h5 68 rfl rfl
set_option maxRecDepth 100000 in
theorem ml_X11_448 : Cond.methodLink RX11 448 yJ9_abs_0f7a4 ∈ lw_good := lw_h5 72 rfl rfl
set_option maxRecDepth 100000 in
theorem ml_L_155 : Cond.methodLink RL 155 yX11_doubts ∈ lw_good := lw_h5 73 rfl rfl
set_option maxRecDepth 100000 in
theorem ml_X11_451 : Cond.methodLink RX11 451 yX6_isInDoubt ∈ lw_good := lw_h5 77 rfl rfl
set_option maxRecDepth 100000 in
theorem ml_X6_80 : Cond.methodLink RX6 80 yX6_nearestTo ∈ lw_good := lw_h5 81 rfl rfl
set_option maxRecDepth 100000 in
theorem ml_X6_83 : Cond.methodLink RX6 83 yX6_hearseOn ∈ lw_good := lw_h5 82 rfl rfl
set_option maxRecDepth 100000 in
theorem ml_L_159 : Cond.methodLink RL 159 yX11_heard ∈ lw_good := lw_h5 83 rfl rfl
set_option maxRecDepth 100000 in
theorem ml_X11_454 : Cond.methodLink RX11 454 yX0_add ∈ lw_good := lw_h5 87 rfl rfl
set_option maxRecDepth 100000 in
theorem ml_X0_22 : Cond.methodLink RX0 22 yX0_canBe ∈ lw_good := lw_h5 91 rfl rfl
set_option maxRecDepth 100000 in
theorem ml_L_163 : Cond.methodLink RL 163 yX11_forget ∈ lw_good := lw_h5 94 rfl rfl
set_option maxRecDepth 100000 in
theorem ml_L_167 : Cond.methodLink RL 167 yX11_fits ∈ lw_good := lw_h5 98 rfl rfl
set_option maxRecDepth 100000 in
theorem ml_X11_457 : Cond.methodLink RX11 457 yX0_isTrueOf ∈ lw_good := lw_h5 102 rfl rfl
set_option maxRecDepth 100000 in
theorem ml_X0_26 : Cond.methodLink RX0 26 yX0_isOneTrueOf ∈ lw_good := lw_h5 106 rfl rfl
set_option maxRecDepth 100000 in
theorem ml_X0_35 : Cond.methodLink RX0 35 yX6_bitsOf ∈ lw_good := lw_h5 110 rfl rfl
set_option maxRecDepth 100000 in
theorem ml_X0_39 : Cond.methodLink RX0 39 yJ6_bitCount_0f7a4 ∈ lw_good := lw_h5 111 rfl rfl
set_option maxRecDepth 100000 in
theorem ml_L_171 : Cond.methodLink RL 171 yX11_rains ∈ lw_good := lw_h5 112 rfl rfl
set_option maxRecDepth 100000 in
theorem ml_X11_461 : Cond.methodLink RX11 461 yX11_power ∈ lw_good := lw_h5 116 rfl rfl
set_option maxRecDepth 100000 in
theorem ct_X11_465 : Cond.constantLong RX11 465 (10) ∈ lw_good := lw_h5 119 rfl rfl
set_option maxRecDepth 100000 in
theorem ml_X11_467 : Cond.methodLink RX11 467 yX11_commonDivisor ∈ lw_good := lw_h5 120 rfl rfl
set_option maxRecDepth 100000 in
theorem ml_L_176 : Cond.methodLink RL 176 yX11_law ∈ lw_good := lw_h5 123 rfl rfl
set_option maxRecDepth 100000 in
theorem ml_L_180 : Cond.methodLink RL 180 yX11_rests ∈ lw_good := lw_h5 127 rfl rfl
set_option maxRecDepth 100000 in
theorem ml_X11_471 : Cond.methodLink RX11 471 yX11_isBestAnswer ∈ lw_good := lw_h5 131 rfl rfl
set_option maxRecDepth 100000 in
theorem ml_X11_475 : Cond.methodLink RX11 475 yX11_gain ∈ lw_good := lw_h5 134 rfl rfl
set_option maxRecDepth 100000 in
theorem ml_L_184 : Cond.methodLink RL 184 yX11_years ∈ lw_good := lw_h5 137 rfl rfl
set_option maxRecDepth 100000 in
theorem ml_X11_479 : Cond.methodLink RX11 479 yX11_draw ∈ lw_good := lw_h5 141 rfl rfl
set_option maxRecDepth 100000 in
theorem ct_X11_485 : Cond.constant RX11 485 (1103515245) ∈ lw_good := lw_h5 145 rfl rfl
set_option maxRecDepth 100000 in
theorem ml_L_188 : Cond.methodLink RL 188 yX11_keep ∈ lw_good := lw_h5 146 rfl rfl
set_option maxRecDepth 100000 in
theorem ml_L_192 : Cond.methodLink RL 192 yX11_again ∈ lw_good := lw_h5 150 rfl rfl
set_option maxRecDepth 100000 in
theorem ml_L_196 : Cond.methodLink RL 196 yX11_count ∈ lw_good := lw_h5 154 rfl rfl
set_option maxRecDepth 100000 in
theorem ml_X11_489 : Cond.methodLink RX11 489 yX8_weatherAt ∈ lw_good := lw_h5 158 rfl rfl
set_option maxRecDepth 100000 in
theorem ml_L_7 : Cond.methodLink RL 7 yX11_hearse ∈ lw_good := lw_h5 163 rfl rfl
end
