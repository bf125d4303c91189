section
/-! BASE. Ints are written iI of an Int, arrays ar of a function on Int; the kit's rows in these words. -/
def iI (z : Int) : Int32 := Int32.ofInt z
def lI (z : Int) : Int64 := Int64.ofInt z
abbrev iR (z : Int) : Prop := -2147483648 ≤ z ∧ z ≤ 2147483647
abbrev lR (z : Int) : Prop := -9223372036854775808 ≤ z ∧ z ≤ 9223372036854775807
theorem iI_add (a b : Int) : iI a + iI b = iI (a + b) := (Int32.ofInt_add a b).symm
theorem iI_sub (a b : Int) : iI a - iI b = iI (a - b) := (Int32.ofInt_sub a b).symm
theorem iI_mul (a b : Int) : iI a * iI b = iI (a * b) := (Int32.ofInt_mul a b).symm
theorem iI_neg (a : Int) : - iI a = iI (-a) := (Int32.ofInt_neg a).symm
theorem lI_add (a b : Int) : lI a + lI b = lI (a + b) := (Int64.ofInt_add a b).symm
theorem lI_mul (a b : Int) : lI a * lI b = lI (a * b) := (Int64.ofInt_mul a b).symm
theorem iI_toInt {z : Int} (h : iR z) : (iI z).toInt = z := Int32.toInt_ofInt_of_le (by omega) (by omega)
theorem lI_toInt {z : Int} (h : lR z) : (lI z).toInt = z := Int64.toInt_ofInt_of_le (by omega) (by omega)
theorem iI_of (x : Int32) : ∃ z : Int, iR z ∧ x = iI z := ⟨x.toInt, ⟨by have := Int32.le_toInt x; omega, by have := Int32.toInt_lt x; omega⟩, (Int32.ofInt_toInt x).symm⟩
theorem lI_of (x : Int64) : ∃ z : Int, lR z ∧ x = lI z := ⟨x.toInt, ⟨by have := Int64.le_toInt x; omega, by have := Int64.toInt_lt x; omega⟩, (Int64.ofInt_toInt x).symm⟩
theorem iI_lt {a b : Int} (ha : iR a) (hb : iR b) : iI a < iI b ↔ a < b := by rw [Int32.lt_iff_toInt_lt, iI_toInt ha, iI_toInt hb]
theorem iI_le {a b : Int} (ha : iR a) (hb : iR b) : iI a ≤ iI b ↔ a ≤ b := by rw [Int32.le_iff_toInt_le, iI_toInt ha, iI_toInt hb]
theorem iI_eq {a b : Int} (ha : iR a) (hb : iR b) : iI a = iI b ↔ a = b := by rw [← Int32.toInt_inj, iI_toInt ha, iI_toInt hb]
theorem lI_lt {a b : Int} (ha : lR a) (hb : lR b) : lI a < lI b ↔ a < b := by rw [Int64.lt_iff_toInt_lt, lI_toInt ha, lI_toInt hb]
theorem lI_eq {a b : Int} (ha : lR a) (hb : lR b) : lI a = lI b ↔ a = b := by rw [← Int64.toInt_inj, lI_toInt ha, lI_toInt hb]
theorem iI_clamp {z : Int} (h : iR z) : (iI z).toNatClampNeg = z.toNat := by
  show (iI z).toInt.toNat = _
  rw [iI_toInt h]
theorem iI_in {z : Int} {n : Nat} (h0 : 0 ≤ z) (h1 : z < (n : Int)) (hn : n ≤ 2147483647) : vp_in (iI z) n := vp_in_iff.mpr (by rw [iI_toInt ⟨by omega, by omega⟩]; exact ⟨h0, h1⟩)
theorem iI_z : (0 : Int32) = iI 0 := rfl
theorem iI_nn {z : Int} (h : iR z) (h0 : 0 ≤ z) : ¬ iI z < 0 := by rw [iI_z, iI_lt h (by decide)]; omega
theorem iI_nz {z : Int} (h : iR z) (h0 : ¬ z = 0) : ¬ iI z = 0 := by rw [iI_z, iI_eq h (by decide)]; exact h0
theorem iI_long {z : Int} (h : iR z) : (iI z).toInt64 = lI z := by
  rw [← Int64.toInt_inj, Int32.toInt_toInt64, iI_toInt h, lI_toInt ⟨by omega, by omega⟩]
def ar (g : Int → Int) : Nat → Int32 := fun k => iI (g k)
def arL (g : Int → Int) : Nat → Int64 := fun k => lI (g k)
def up (g : Int → Int) (e v : Int) : Int → Int := fun j => if j = e then v else g j
def cpy (f g : Int → Int) (n : Int) : Int → Int := fun j => if 0 ≤ j ∧ j < n then f j else g j
theorem ar_get (g : Int → Int) {e : Int} (h0 : 0 ≤ e) (h1 : e ≤ 2147483647) : ar g (iI e).toNatClampNeg = iI (g e) := by
  rw [iI_clamp ⟨by omega, h1⟩]
  show iI (g (e.toNat : Int)) = _
  rw [Int.toNat_of_nonneg h0]
theorem arL_get (g : Int → Int) {e : Int} (h0 : 0 ≤ e) (h1 : e ≤ 2147483647) : arL g (iI e).toNatClampNeg = lI (g e) := by
  rw [iI_clamp ⟨by omega, h1⟩]
  show lI (g (e.toNat : Int)) = _
  rw [Int.toNat_of_nonneg h0]
theorem ar_set (g : Int → Int) {e v : Int} (h0 : 0 ≤ e) (h1 : e ≤ 2147483647) : upd (ar g) (iI e).toNatClampNeg (iI v) = ar (up g e v) := by
  rw [iI_clamp ⟨by omega, h1⟩]
  funext k
  by_cases h : k = e.toNat
  · subst h
    rw [show upd (ar g) e.toNat (iI v) e.toNat = iI v from pk_us]
    show _ = iI (if ((e.toNat : Nat) : Int) = e then v else g _)
    rw [if_pos (Int.toNat_of_nonneg h0)]
  · rw [pk_un h]
    show iI (g k) = iI (if (k : Int) = e then v else g k)
    rw [if_neg (by omega)]
theorem arL_set (g : Int → Int) {e v : Int} (h0 : 0 ≤ e) (h1 : e ≤ 2147483647) : vp_updL (arL g) (iI e).toNatClampNeg (lI v) = arL (up g e v) := by
  rw [iI_clamp ⟨by omega, h1⟩]
  funext k
  by_cases h : k = e.toNat
  · subst h
    rw [pk_uLs]
    show _ = lI (if ((e.toNat : Nat) : Int) = e then v else g _)
    rw [if_pos (Int.toNat_of_nonneg h0)]
  · rw [pk_uLn h]
    show lI (g k) = lI (if (k : Int) = e then v else g k)
    rw [if_neg (by omega)]
theorem ar_cpy (f g : Int → Int) {n : Int} (h0 : 0 ≤ n) (h1 : n ≤ 2147483647) : va_cpy (ar f) (ar g) (iI 0).toNatClampNeg (iI 0).toNatClampNeg (iI n).toNatClampNeg = ar (cpy f g n) := by
  rw [iI_clamp (show iR 0 by decide), iI_clamp ⟨by omega, h1⟩]
  funext k
  by_cases h : (k : Int) < n
  · rw [pk_cpy_in (by simp) (by simp; omega)]
    show iI (f _) = iI (if 0 ≤ (k : Int) ∧ (k : Int) < n then f k else g k)
    rw [if_pos ⟨by omega, h⟩]
    simp
  · rw [pk_cpy_out (Or.inr (by simp; omega))]
    show iI (g k) = iI (if 0 ≤ (k : Int) ∧ (k : Int) < n then f k else g k)
    rw [if_neg (by omega)]
-- the words: the whole table that may go over a call
def lw_good : List Cond := lw_tbl.filter goodWord
def lw_w (y : MethodName) (b : ByteArray) (n : Nat) (r : Option FieldType) : List Cond := .code y b n r :: lw_good
theorem lw_gi (i : Nat) {w : Cond} (h : lw_tbl[i]? = some w) (hg : goodWord w = true) : w ∈ lw_good := List.mem_filter.mpr ⟨List.mem_of_getElem? h, hg⟩
theorem lw_gt {w : Cond} (h : w ∈ lw_good) : w ∈ lw_tbl := (List.mem_filter.mp h).1
theorem lw_gg {w : Cond} (h : w ∈ lw_good) : (w.onTables && w.keeps) = true ∨ ∃ ty, w = .arrayClass ty := good_of_word (List.mem_filter.mp h).2
theorem lw_gl {ws : List Cond} (h : ws.all (fun w => decide (w ∈ lw_tbl) && goodWord w) = true) : ∀ w ∈ ws, w ∈ lw_good := fun w hw => by
  have h1 := List.all_eq_true.mp h w hw
  rw [Bool.and_eq_true] at h1
  exact List.mem_filter.mpr ⟨of_decide_eq_true h1.1, h1.2⟩
theorem g_good {big ws : List Cond} (hb : ∀ w ∈ lw_good, w ∈ big) (h : ∀ w ∈ ws, w ∈ lw_good) : GoodIn big ws := fun w hw => ⟨hb w (h w hw), lw_gg (h w hw)⟩
-- the kinds of arrays
abbrev ty5 (τ : Nat → ClassId) : List (ClassId × FieldType) := [(τ 0, .int), (τ 1, .long), (τ 2, .boolean), (τ 3, .object "BehindAnotherHearse$Scene"), (τ 4, .array .int)]
theorem AOA_spec {t : FieldType} {U : State} (h : va_AOA t U) : ∃ comp c k, U.vm.findClass (FieldType.array t).toString = some comp ∧ (U.vm.classes.findIdx? fun x => match x.kind with | .array component _ => component == comp | _ => false) = some c ∧ U.vm.classes[c]? = some k ∧ k.kind = .array comp (.array t) ∧ U.vm.findClass ("[" ++ (FieldType.array t).toString) = some c := by
  have h : (Cond.arrayOver (.array t)).holds #[] U none U [] = true := h
  simp only [Cond.holds, Cond.value, beq_iff_eq] at h
  cases hc : U.vm.findClass (FieldType.array t).toString with
  | none => simp [hc] at h
  | some comp =>
    simp only [hc, Option.bind_some, Option.bind_eq_some_iff, Option.map_eq_some_iff] at h
    obtain ⟨c, hi, k, hk, hb⟩ := h
    obtain ⟨hlt, hp, -⟩ := Array.findIdx?_eq_some_iff_getElem.mp hi
    have hkk : U.vm.classes[c] = k := (Array.getElem?_eq_some_iff.mp hk).2
    rw [hkk] at hp
    cases hkind : k.kind with
    | array component ty =>
      rw [hkind] at hb hp
      simp at hb hp
      exact ⟨comp, c, k, rfl, hi, hk, by rw [hkind, hp, hb.1], hb.2⟩
    | _ => rw [hkind] at hb; simp at hb
theorem va_AOA.moved {t : FieldType} {u U : State} (hvm : u.vm.Alike U.vm) (h : va_AOA t u) : va_AOA t U := by
  obtain ⟨comp, c, k, h1, h2, h3, h4, h5⟩ := AOA_spec h
  obtain ⟨k', hk', he⟩ := hvm.2.2 _ _ h3
  have hi : (U.vm.classes.findIdx? fun (x : Class) => match x.kind with | .array component _ => component == comp | _ => false) = some c := by
    have e1 := va_idx_bare U.vm comp
    have e2 := va_idx_bare u.vm comp
    have e3 := hvm.bare_eq
    first | rw [e3] at e1 | rw [← e3] at e1
    exact e1.symm.trans (e2.trans h2)
  have hkind : k'.kind = .array comp (.array t) := by rw [he]; exact h4
  have f1 : U.vm.findClass (FieldType.array t).toString = some comp := by rw [hvm.findClass]; exact h1
  have f2 : U.vm.findClass ("[" ++ (FieldType.array t).toString) = some c := by rw [hvm.findClass]; exact h5
  unfold va_AOA Cond.before Cond.holds
  simp only [Cond.value]
  rw [f1, Option.bind_some]
  refine (congrArg (fun o : Option Nat => (o.bind (fun c => (U.vm.classes[c]?).map fun (k : Class) => match k.kind with | .array _ ty => decide (ty = FieldType.array t) && decide (U.vm.findClass ("[" ++ (FieldType.array t).toString) = some c) | _ => false) == some true)) hi).trans ?_
  simp [hk', hkind, f2]
def isNest : Cond → Bool
  | .fieldLinkNest _ _ _ _ _ _ => true
  | .methodLinkNest _ _ _ _ => true
  | .declares _ => true
  | .castable _ _ => true
  | _ => false
def lw_nest : List Cond := lw_tbl.filter isNest
theorem lw_ni (i : Nat) {w : Cond} (h : lw_tbl[i]? = some w) (hg : isNest w = true) : w ∈ lw_nest := List.mem_filter.mpr ⟨List.mem_of_getElem? h, hg⟩
/-- the words that go over a call by rows of their own -/
def NXw (U : State) : Prop := ∀ w ∈ lw_nest, va_Nw w U
def NX (U : State) : Prop := NXw U ∧ va_AO "BehindAnotherHearse$Scene" U ∧ va_AOA .int U
theorem NXw.same {u U : State} (h : u.vm = U.vm) (hN : NXw u) : NXw U := fun w hw => by
  have h1 := (List.mem_filter.mp hw).2
  have h2 := hN w hw
  revert h1 h2
  cases w <;> intro h1 h2 <;> first | exact absurd h1 Bool.false_ne_true | exact va_Nw.same rfl h h2 | (simp [isNest] at h1)
theorem NXw.warm {s U : State} (hW : s.WarmedH U.vm) (hN : NXw s) : NXw U := fun w hw => by
  have h1 := (List.mem_filter.mp hw).2
  have h2 := hN w hw
  revert h1 h2
  cases w <;> intro h1 h2 <;> first | exact absurd h1 Bool.false_ne_true | exact va_Nw.warmF hW h2  | exact va_Nw.warmM hW h2 | exact va_Nw.warmD hW h2 | exact va_Nw.warmC hW h2 | (simp [isNest] at h1)
theorem NX.same {u U : State} (h : u.vm = U.vm) (hN : NX u) : NX U := ⟨hN.1.same h, hN.2.1.moved (by rw [h]; exact Vm.Alike.refl _), hN.2.2.moved (by rw [h]; exact Vm.Alike.refl _)⟩
theorem NX.warm {s U : State} (hW : s.WarmedH U.vm) (hN : NX s) : NX U := ⟨hN.1.warm hW, hN.2.1.moved hW.alike, hN.2.2.moved hW.alike⟩
def cx (D : va_G) (τ : Nat → ClassId) (s : State) (m : MethodId) (args : Array Value) (own : String) : Prop := (∀ w ∈ lw_good, w.before args s = true) ∧ s.vm.findClass own = some m.cls ∧ va_K D vwCl (ty5 τ) s ∧ NX s
def wS (D : va_G) (A : Nat → Prop) (H0 : Heap) (ws : va_W) (H : Heap) (locs : List Loc) : Prop := va_P D vwCl ws H ∧ va_D A ws ∧ va_S A H0 H locs
abbrev rmk (k mc ms : Nat) : Room := { frames := k, cells := mc, slots := ms, locals := 64 * k }
def gPre (D : va_G) (τ : Nat → ClassId) (wc : va_W) (sz : Nat) : State → Prop := fun U => U.heap.size = sz ∧ va_P D vwCl wc U.heap ∧ (va_K D vwCl (ty5 τ) U ∧ NX U) ∧ va_D (fun _ => True) wc
abbrev gPc (D : va_G) (τ : Nat → ClassId) (wc : va_W) (sz : Nat) (As : List Value) : Array Value → State → Prop := va_Pc As (gPre D τ wc sz)
def gW (D : va_G) (A : Nat → Prop) (E : va_W → Prop) (t : State) : Prop := ∃ ws' : va_W, E ws' ∧ va_P D vwCl ws' t.heap ∧ va_D A ws'
def gQi (D : va_G) (E : Int → va_W → Prop) (A : Nat → Prop) : Array Value → State → Outcome → State → Prop := va_Qi (fun r u => r = u) (fun r t => ∃ z : Int, iR z ∧ r = iI z ∧ gW D A (E z) t) A
def gQl (D : va_G) (E : Int → va_W → Prop) (A : Nat → Prop) : Array Value → State → Outcome → State → Prop := va_Ql (fun r u => r = u) (fun r t => ∃ z : Int, lR z ∧ r = lI z ∧ gW D A (E z) t) A
def gQv (D : va_G) (E : va_W → Prop) (A : Nat → Prop) : Array Value → State → Outcome → State → Prop := va_Qv (fun _ : Unit => True) (fun _ t => gW D A E t) A
theorem gPc_blind {D : va_G} {τ : Nat → ClassId} {wc : va_W} {sz : Nat} {As : List Value} : FrameBlind (gPc D τ wc sz As) := fun a U g mk q => by
  obtain ⟨q0, q1, qP, qK, qD⟩ := q
  exact ⟨q0, q1, qP, ⟨va_K.moved (u := U) (U := U.calling g mk a) (Vm.Alike.refl U.vm) qK.1, NX.same (u := U) (U := U.calling g mk a) rfl qK.2⟩, qD⟩
/-- a contract out of a walk of its body -/
theorem g_met {l : Launch} {y : MethodName} {b : ByteArray} {mL k mc ms sz : Nat} {ret : Option FieldType} {D : va_G} {τ : Nat → ClassId} {wc : va_W} {As : List Value} {Qc : (Nat → Prop) → Array Value → State → Outcome → State → Prop} (hpl : plainName y.cls = true) (hn : (lg_sl As).length ≤ mL)
    (body : ∀ (p : Program) (e : Env) (s : State) (m : MethodId) (args : Array Value) (below : List Frame) (meth : Method) (c : Code) (A : Nat → Prop) (ls : Array Slot), p.tables.exec = Jvm.exec → c.code = b → c.maxLocals = mL → meth.sig.returnType = ret → meth.locks = false → meth.name = y.name → cx D τ s m args y.cls → (∀ q : Nat, s.heap.size ≤ q → A q) → wS D A s.heap wc s.heap [] → lv_has ls mL (lv_args 0 As) →
      W p l e (rmk k mc ms) s m args below meth c s.heap [] 0 0 (MQ below (Qc A) args s mc ms A) (F0 m 0 ls [])) :
    Met l y (lw_w y b mL ret) (rmk k mc ms) (gPc D τ wc sz As) (Qc (va_A wc sz)) mc ms (va_A wc sz) := by
  refine Met.ofW (cc := b) (maxL := mL) (ret := ret) hpl rfl ?_
  intro p e s m args below meth c s₁ B hml hv
  obtain ⟨rfl, hsz, hP, hK, hD0⟩ := hv
  have hts := atoms_spec (ws := lw_w y b mL ret) B.pre
  have hown : s.vm.findClass y.cls = some m.cls := findClass_of_methodNamed B.named
  subst hsz
  have hl := lv_entry As (n := mL) hn
  rw [lg_entry_eq]
  exact body p e s m _ below meth c (va_A wc s.heap.size) _ B.exec B.bytes hml B.returns B.notSynchronized (name_of_methodNamed B.named B.method).1 ⟨fun w hw => hts w (List.mem_cons_of_mem _ hw), hown, hK.1, hK.2⟩ (fun q h => Or.inr h) ⟨hP, hD0.self, va_S.rf⟩ hl
section RW
variable {p : Program} {l : Launch} {e : Env} {R : Room} {s : State} {m : MethodId} {args : Array Value} {below : List Frame} {meth : Method} {c : Code} {H : Heap} {locs : List Loc} {cells slots : Nat} {Q : State → Prop}
variable {cc : ByteArray} {pc : Nat} {ls : Array Slot} {rest : List Value} {D : va_G} {A : Nat → Prop} {a : Nat} {ws : va_W} {H0 : Heap} {τ : Nat → ClassId} {own : String}

theorem r_iadd (hx : p.tables.exec = Jvm.exec) (hb : c.code = cc) {a b z : Int} (hd : decode cc pc = .ok (.iadd, 1)) (hz : a + b = z) (k : W p l e R s m args below meth c H locs cells slots Q (F0 m (pc + 1) ls (.int (iI z) :: rest))) : W p l e R s m args below meth c H locs cells slots Q (F0 m pc ls (.int (iI b) :: .int (iI a) :: rest)) := lv_iadd hx hb hd (by rw [iI_add, hz]; exact k)
theorem r_isub (hx : p.tables.exec = Jvm.exec) (hb : c.code = cc) {a b z : Int} (hd : decode cc pc = .ok (.isub, 1)) (hz : a - b = z) (k : W p l e R s m args below meth c H locs cells slots Q (F0 m (pc + 1) ls (.int (iI z) :: rest))) : W p l e R s m args below meth c H locs cells slots Q (F0 m pc ls (.int (iI b) :: .int (iI a) :: rest)) := lv_isub hx hb hd (by rw [iI_sub, hz]; exact k)
theorem r_imul (hx : p.tables.exec = Jvm.exec) (hb : c.code = cc) {a b z : Int} (hd : decode cc pc = .ok (.imul, 1)) (hz : a * b = z) (k : W p l e R s m args below meth c H locs cells slots Q (F0 m (pc + 1) ls (.int (iI z) :: rest))) : W p l e R s m args below meth c H locs cells slots Q (F0 m pc ls (.int (iI b) :: .int (iI a) :: rest)) := lv_imul hx hb hd (by rw [iI_mul, hz]; exact k)
theorem r_ladd (hx : p.tables.exec = Jvm.exec) (hb : c.code = cc) {a b z : Int} (hd : decode cc pc = .ok (.ladd, 1)) (hz : a + b = z) (k : W p l e R s m args below meth c H locs cells slots Q (F0 m (pc + 1) ls (.long (lI z) :: rest))) : W p l e R s m args below meth c H locs cells slots Q (F0 m pc ls (.long (lI b) :: .long (lI a) :: rest)) := lv_ladd hx hb hd (by rw [lI_add, hz]; exact k)
theorem r_lmul (hx : p.tables.exec = Jvm.exec) (hb : c.code = cc) {a b z : Int} (hd : decode cc pc = .ok (.lmul, 1)) (hz : a * b = z) (k : W p l e R s m args below meth c H locs cells slots Q (F0 m (pc + 1) ls (.long (lI z) :: rest))) : W p l e R s m args below meth c H locs cells slots Q (F0 m pc ls (.long (lI b) :: .long (lI a) :: rest)) := lv_lmul hx hb hd (by rw [lI_mul, hz]; exact k)
theorem r_ineg (hx : p.tables.exec = Jvm.exec) (hb : c.code = cc) {a z : Int} (hd : decode cc pc = .ok (.ineg, 1)) (hz : -a = z) (k : W p l e R s m args below meth c H locs cells slots Q (F0 m (pc + 1) ls (.int (iI z) :: rest))) : W p l e R s m args below meth c H locs cells slots Q (F0 m pc ls (.int (iI a) :: rest)) := lv_ineg hx hb hd (by rw [iI_neg, hz]; exact k)
theorem r_iconst (hx : p.tables.exec = Jvm.exec) (hb : c.code = cc) {n : Int} (hd : decode cc pc = .ok (.iconst n, 1)) (k : W p l e R s m args below meth c H locs cells slots Q (F0 m (pc + 1) ls (.int (iI n) :: rest))) : W p l e R s m args below meth c H locs cells slots Q (F0 m pc ls rest) := lv_iconst hx hb hd rfl k
theorem r_bipush (hx : p.tables.exec = Jvm.exec) (hb : c.code = cc) {n : Int} (hd : decode cc pc = .ok (.bipush n, 2)) (hv : (Int8.ofInt n).toInt32 = iI n) (k : W p l e R s m args below meth c H locs cells slots Q (F0 m (pc + 2) ls (.int (iI n) :: rest))) : W p l e R s m args below meth c H locs cells slots Q (F0 m pc ls rest) := lv_bipush hx hb hd hv k
theorem r_sipush (hx : p.tables.exec = Jvm.exec) (hb : c.code = cc) {n : Int} (hd : decode cc pc = .ok (.sipush n, 3)) (hv : (Int16.ofInt n).toInt32 = iI n) (k : W p l e R s m args below meth c H locs cells slots Q (F0 m (pc + 3) ls (.int (iI n) :: rest))) : W p l e R s m args below meth c H locs cells slots Q (F0 m pc ls rest) := lv_sipush hx hb hd hv k
theorem r_lconst (hx : p.tables.exec = Jvm.exec) (hb : c.code = cc) {n : Fin 2} {z : Int} (hd : decode cc pc = .ok (.lconst n, 1)) (hv : Int64.ofNat (n : Nat) = lI z) (k : W p l e R s m args below meth c H locs cells slots Q (F0 m (pc + 1) ls (.long (lI z) :: rest))) : W p l e R s m args below meth c H locs cells slots Q (F0 m pc ls rest) := lv_lconst hx hb hd hv k
theorem r_i2l (hx : p.tables.exec = Jvm.exec) (hb : c.code = cc) {a : Int} (hd : decode cc pc = .ok (.i2l, 1)) (h : iR a) (k : W p l e R s m args below meth c H locs cells slots Q (F0 m (pc + 1) ls (.long (lI a) :: rest))) : W p l e R s m args below meth c H locs cells slots Q (F0 m pc ls (.int (iI a) :: rest)) := lv_i2l hx hb hd (iI_long h) k
theorem r_iand (hx : p.tables.exec = Jvm.exec) (hb : c.code = cc) {a b : Int} (hd : decode cc pc = .ok (.iand, 1)) (k : ∀ z : Int, iR z → iI a &&& iI b = iI z → W p l e R s m args below meth c H locs cells slots Q (F0 m (pc + 1) ls (.int (iI z) :: rest))) : W p l e R s m args below meth c H locs cells slots Q (F0 m pc ls (.int (iI b) :: .int (iI a) :: rest)) := by
  obtain ⟨z, h1, h2⟩ := iI_of (iI a &&& iI b)
  exact lv_iand hx hb hd (by rw [h2]; exact k z h1 h2)
theorem r_ior (hx : p.tables.exec = Jvm.exec) (hb : c.code = cc) {a b : Int} (hd : decode cc pc = .ok (.ior, 1)) (k : ∀ z : Int, iR z → iI a ||| iI b = iI z → W p l e R s m args below meth c H locs cells slots Q (F0 m (pc + 1) ls (.int (iI z) :: rest))) : W p l e R s m args below meth c H locs cells slots Q (F0 m pc ls (.int (iI b) :: .int (iI a) :: rest)) := by
  obtain ⟨z, h1, h2⟩ := iI_of (iI a ||| iI b)
  exact lv_ior hx hb hd (by rw [h2]; exact k z h1 h2)
theorem r_ixor (hx : p.tables.exec = Jvm.exec) (hb : c.code = cc) {a b : Int} (hd : decode cc pc = .ok (.ixor, 1)) (k : ∀ z : Int, iR z → iI a ^^^ iI b = iI z → W p l e R s m args below meth c H locs cells slots Q (F0 m (pc + 1) ls (.int (iI z) :: rest))) : W p l e R s m args below meth c H locs cells slots Q (F0 m pc ls (.int (iI b) :: .int (iI a) :: rest)) := by
  obtain ⟨z, h1, h2⟩ := iI_of (iI a ^^^ iI b)
  exact lv_ixor hx hb hd (by rw [h2]; exact k z h1 h2)
theorem r_ishl (hx : p.tables.exec = Jvm.exec) (hb : c.code = cc) {a b : Int} (hd : decode cc pc = .ok (.ishl, 1)) (k : ∀ z : Int, iR z → iI a <<< (iI b &&& 31) = iI z → W p l e R s m args below meth c H locs cells slots Q (F0 m (pc + 1) ls (.int (iI z) :: rest))) : W p l e R s m args below meth c H locs cells slots Q (F0 m pc ls (.int (iI b) :: .int (iI a) :: rest)) := by
  obtain ⟨z, h1, h2⟩ := iI_of (iI a <<< (iI b &&& 31))
  exact lv_ishl hx hb hd (by rw [h2]; exact k z h1 h2)
theorem r_ishr (hx : p.tables.exec = Jvm.exec) (hb : c.code = cc) {a b : Int} (hd : decode cc pc = .ok (.ishr, 1)) (k : ∀ z : Int, iR z → iI a >>> (iI b &&& 31) = iI z → W p l e R s m args below meth c H locs cells slots Q (F0 m (pc + 1) ls (.int (iI z) :: rest))) : W p l e R s m args below meth c H locs cells slots Q (F0 m pc ls (.int (iI b) :: .int (iI a) :: rest)) := by
  obtain ⟨z, h1, h2⟩ := iI_of (iI a >>> (iI b &&& 31))
  exact lv_ishr hx hb hd (by rw [h2]; exact k z h1 h2)
theorem r_iushr (hx : p.tables.exec = Jvm.exec) (hb : c.code = cc) {a b : Int} (hd : decode cc pc = .ok (.iushr, 1)) (k : ∀ z : Int, iR z → ((iI a).toUInt32 >>> ((iI b).toUInt32 &&& Int32.toUInt32 31)).toInt32 = iI z → W p l e R s m args below meth c H locs cells slots Q (F0 m (pc + 1) ls (.int (iI z) :: rest))) : W p l e R s m args below meth c H locs cells slots Q (F0 m pc ls (.int (iI b) :: .int (iI a) :: rest)) := by
  obtain ⟨z, h1, h2⟩ := iI_of (((iI a).toUInt32 >>> ((iI b).toUInt32 &&& Int32.toUInt32 31)).toInt32)
  exact lv_iushr hx hb hd h2 (k z h1 h2)
theorem r_idiv (hx : p.tables.exec = Jvm.exec) (hb : c.code = cc) {a b : Int} (hd : decode cc pc = .ok (.idiv, 1)) (hn : iR b) (hz : ¬ b = 0) (k : ∀ z : Int, iR z → iI a / iI b = iI z → W p l e R s m args below meth c H locs cells slots Q (F0 m (pc + 1) ls (.int (iI z) :: rest))) : W p l e R s m args below meth c H locs cells slots Q (F0 m pc ls (.int (iI b) :: .int (iI a) :: rest)) := by
  obtain ⟨z, h1, h2⟩ := iI_of (iI a / iI b)
  exact lv_idiv hx hb hd (iI_nz hn hz) (by rw [h2]; exact k z h1 h2)
theorem r_irem (hx : p.tables.exec = Jvm.exec) (hb : c.code = cc) {a b : Int} (hd : decode cc pc = .ok (.irem, 1)) (hn : iR b) (hz : ¬ b = 0) (k : ∀ z : Int, iR z → iI a - iI a / iI b * iI b = iI z → W p l e R s m args below meth c H locs cells slots Q (F0 m (pc + 1) ls (.int (iI z) :: rest))) : W p l e R s m args below meth c H locs cells slots Q (F0 m pc ls (.int (iI b) :: .int (iI a) :: rest)) := by
  obtain ⟨z, h1, h2⟩ := iI_of (iI a - iI a / iI b * iI b)
  exact lv_irem hx hb hd (iI_nz hn hz) (by rw [h2]; exact k z h1 h2)
theorem r_i2b (hx : p.tables.exec = Jvm.exec) (hb : c.code = cc) {a : Int} (hd : decode cc pc = .ok (.i2b, 1)) (k : ∀ z : Int, iR z → (iI a).toInt8.toInt32 = iI z → W p l e R s m args below meth c H locs cells slots Q (F0 m (pc + 1) ls (.int (iI z) :: rest))) : W p l e R s m args below meth c H locs cells slots Q (F0 m pc ls (.int (iI a) :: rest)) := by
  obtain ⟨z, h1, h2⟩ := iI_of ((iI a).toInt8.toInt32)
  exact lv_i2b hx hb hd h2 (k z h1 h2)
theorem r_i2s (hx : p.tables.exec = Jvm.exec) (hb : c.code = cc) {a : Int} (hd : decode cc pc = .ok (.i2s, 1)) (k : ∀ z : Int, iR z → (iI a).toInt16.toInt32 = iI z → W p l e R s m args below meth c H locs cells slots Q (F0 m (pc + 1) ls (.int (iI z) :: rest))) : W p l e R s m args below meth c H locs cells slots Q (F0 m pc ls (.int (iI a) :: rest)) := by
  obtain ⟨z, h1, h2⟩ := iI_of ((iI a).toInt16.toInt32)
  exact lv_i2s hx hb hd h2 (k z h1 h2)
theorem r_icmp_eq (hx : p.tables.exec = Jvm.exec) (hb : c.code = cc) {a b : Int} {off : Int} {tgt : Nat} (hd : decode cc pc = .ok (.if_icmp .eq off, 3)) (ht : (pc : Int) + off = (tgt : Int)) (har : iR a) (hbr : iR b) (kt : a = b → W p l e R s m args below meth c H locs cells slots Q (F0 m tgt ls rest)) (kf : ¬ (a = b) → W p l e R s m args below meth c H locs cells slots Q (F0 m (pc + 3) ls rest)) : W p l e R s m args below meth c H locs cells slots Q (F0 m pc ls (.int (iI b) :: .int (iI a) :: rest)) := lv_icmp_eq hx hb hd ht (fun h => kt ((iI_eq har hbr).mp h)) (fun h => kf (fun g => h ((iI_eq har hbr).mpr g)))
theorem r_if_eq (hx : p.tables.exec = Jvm.exec) (hb : c.code = cc) {a : Int} {off : Int} {tgt : Nat} (hd : decode cc pc = .ok (.ifCond .eq off, 3)) (ht : (pc : Int) + off = (tgt : Int)) (har : iR a) (kt : a = 0 → W p l e R s m args below meth c H locs cells slots Q (F0 m tgt ls rest)) (kf : ¬ (a = 0) → W p l e R s m args below meth c H locs cells slots Q (F0 m (pc + 3) ls rest)) : W p l e R s m args below meth c H locs cells slots Q (F0 m pc ls (.int (iI a) :: rest)) := lv_if_eq hx hb hd ht (fun h => kt ((iI_eq har (show iR 0 by decide)).mp h)) (fun h => kf (fun g => h ((iI_eq har (show iR 0 by decide)).mpr g)))
theorem r_icmp_ne (hx : p.tables.exec = Jvm.exec) (hb : c.code = cc) {a b : Int} {off : Int} {tgt : Nat} (hd : decode cc pc = .ok (.if_icmp .ne off, 3)) (ht : (pc : Int) + off = (tgt : Int)) (har : iR a) (hbr : iR b) (kt : ¬ a = b → W p l e R s m args below meth c H locs cells slots Q (F0 m tgt ls rest)) (kf : a = b → W p l e R s m args below meth c H locs cells slots Q (F0 m (pc + 3) ls rest)) : W p l e R s m args below meth c H locs cells slots Q (F0 m pc ls (.int (iI b) :: .int (iI a) :: rest)) := lv_icmp_ne hx hb hd ht (fun h => kt (fun g => h ((iI_eq har hbr).mpr g))) (fun h => kf ((iI_eq har hbr).mp h))
theorem r_if_ne (hx : p.tables.exec = Jvm.exec) (hb : c.code = cc) {a : Int} {off : Int} {tgt : Nat} (hd : decode cc pc = .ok (.ifCond .ne off, 3)) (ht : (pc : Int) + off = (tgt : Int)) (har : iR a) (kt : ¬ a = 0 → W p l e R s m args below meth c H locs cells slots Q (F0 m tgt ls rest)) (kf : a = 0 → W p l e R s m args below meth c H locs cells slots Q (F0 m (pc + 3) ls rest)) : W p l e R s m args below meth c H locs cells slots Q (F0 m pc ls (.int (iI a) :: rest)) := lv_if_ne hx hb hd ht (fun h => kt (fun g => h ((iI_eq har (show iR 0 by decide)).mpr g))) (fun h => kf ((iI_eq har (show iR 0 by decide)).mp h))
theorem r_icmp_lt (hx : p.tables.exec = Jvm.exec) (hb : c.code = cc) {a b : Int} {off : Int} {tgt : Nat} (hd : decode cc pc = .ok (.if_icmp .lt off, 3)) (ht : (pc : Int) + off = (tgt : Int)) (har : iR a) (hbr : iR b) (kt : a < b → W p l e R s m args below meth c H locs cells slots Q (F0 m tgt ls rest)) (kf : ¬ (a < b) → W p l e R s m args below meth c H locs cells slots Q (F0 m (pc + 3) ls rest)) : W p l e R s m args below meth c H locs cells slots Q (F0 m pc ls (.int (iI b) :: .int (iI a) :: rest)) := lv_icmp_lt hx hb hd ht (fun h => kt ((iI_lt har hbr).mp h)) (fun h => kf (fun g => h ((iI_lt har hbr).mpr g)))
theorem r_if_lt (hx : p.tables.exec = Jvm.exec) (hb : c.code = cc) {a : Int} {off : Int} {tgt : Nat} (hd : decode cc pc = .ok (.ifCond .lt off, 3)) (ht : (pc : Int) + off = (tgt : Int)) (har : iR a) (kt : a < 0 → W p l e R s m args below meth c H locs cells slots Q (F0 m tgt ls rest)) (kf : ¬ (a < 0) → W p l e R s m args below meth c H locs cells slots Q (F0 m (pc + 3) ls rest)) : W p l e R s m args below meth c H locs cells slots Q (F0 m pc ls (.int (iI a) :: rest)) := lv_if_lt hx hb hd ht (fun h => kt ((iI_lt har (show iR 0 by decide)).mp h)) (fun h => kf (fun g => h ((iI_lt har (show iR 0 by decide)).mpr g)))
theorem r_icmp_ge (hx : p.tables.exec = Jvm.exec) (hb : c.code = cc) {a b : Int} {off : Int} {tgt : Nat} (hd : decode cc pc = .ok (.if_icmp .ge off, 3)) (ht : (pc : Int) + off = (tgt : Int)) (har : iR a) (hbr : iR b) (kt : b ≤ a → W p l e R s m args below meth c H locs cells slots Q (F0 m tgt ls rest)) (kf : ¬ (b ≤ a) → W p l e R s m args below meth c H locs cells slots Q (F0 m (pc + 3) ls rest)) : W p l e R s m args below meth c H locs cells slots Q (F0 m pc ls (.int (iI b) :: .int (iI a) :: rest)) := lv_icmp_ge hx hb hd ht (fun h => kt ((iI_le hbr har).mp h)) (fun h => kf (fun g => h ((iI_le hbr har).mpr g)))
theorem r_if_ge (hx : p.tables.exec = Jvm.exec) (hb : c.code = cc) {a : Int} {off : Int} {tgt : Nat} (hd : decode cc pc = .ok (.ifCond .ge off, 3)) (ht : (pc : Int) + off = (tgt : Int)) (har : iR a) (kt : 0 ≤ a → W p l e R s m args below meth c H locs cells slots Q (F0 m tgt ls rest)) (kf : ¬ (0 ≤ a) → W p l e R s m args below meth c H locs cells slots Q (F0 m (pc + 3) ls rest)) : W p l e R s m args below meth c H locs cells slots Q (F0 m pc ls (.int (iI a) :: rest)) := lv_if_ge hx hb hd ht (fun h => kt ((iI_le (show iR 0 by decide) har).mp h)) (fun h => kf (fun g => h ((iI_le (show iR 0 by decide) har).mpr g)))
theorem r_icmp_gt (hx : p.tables.exec = Jvm.exec) (hb : c.code = cc) {a b : Int} {off : Int} {tgt : Nat} (hd : decode cc pc = .ok (.if_icmp .gt off, 3)) (ht : (pc : Int) + off = (tgt : Int)) (har : iR a) (hbr : iR b) (kt : b < a → W p l e R s m args below meth c H locs cells slots Q (F0 m tgt ls rest)) (kf : ¬ (b < a) → W p l e R s m args below meth c H locs cells slots Q (F0 m (pc + 3) ls rest)) : W p l e R s m args below meth c H locs cells slots Q (F0 m pc ls (.int (iI b) :: .int (iI a) :: rest)) := lv_icmp_gt hx hb hd ht (fun h => kt ((iI_lt hbr har).mp h)) (fun h => kf (fun g => h ((iI_lt hbr har).mpr g)))
theorem r_if_gt (hx : p.tables.exec = Jvm.exec) (hb : c.code = cc) {a : Int} {off : Int} {tgt : Nat} (hd : decode cc pc = .ok (.ifCond .gt off, 3)) (ht : (pc : Int) + off = (tgt : Int)) (har : iR a) (kt : 0 < a → W p l e R s m args below meth c H locs cells slots Q (F0 m tgt ls rest)) (kf : ¬ (0 < a) → W p l e R s m args below meth c H locs cells slots Q (F0 m (pc + 3) ls rest)) : W p l e R s m args below meth c H locs cells slots Q (F0 m pc ls (.int (iI a) :: rest)) := lv_if_gt hx hb hd ht (fun h => kt ((iI_lt (show iR 0 by decide) har).mp h)) (fun h => kf (fun g => h ((iI_lt (show iR 0 by decide) har).mpr g)))
theorem r_icmp_le (hx : p.tables.exec = Jvm.exec) (hb : c.code = cc) {a b : Int} {off : Int} {tgt : Nat} (hd : decode cc pc = .ok (.if_icmp .le off, 3)) (ht : (pc : Int) + off = (tgt : Int)) (har : iR a) (hbr : iR b) (kt : a ≤ b → W p l e R s m args below meth c H locs cells slots Q (F0 m tgt ls rest)) (kf : ¬ (a ≤ b) → W p l e R s m args below meth c H locs cells slots Q (F0 m (pc + 3) ls rest)) : W p l e R s m args below meth c H locs cells slots Q (F0 m pc ls (.int (iI b) :: .int (iI a) :: rest)) := lv_icmp_le hx hb hd ht (fun h => kt ((iI_le har hbr).mp h)) (fun h => kf (fun g => h ((iI_le har hbr).mpr g)))
theorem r_if_le (hx : p.tables.exec = Jvm.exec) (hb : c.code = cc) {a : Int} {off : Int} {tgt : Nat} (hd : decode cc pc = .ok (.ifCond .le off, 3)) (ht : (pc : Int) + off = (tgt : Int)) (har : iR a) (kt : a ≤ 0 → W p l e R s m args below meth c H locs cells slots Q (F0 m tgt ls rest)) (kf : ¬ (a ≤ 0) → W p l e R s m args below meth c H locs cells slots Q (F0 m (pc + 3) ls rest)) : W p l e R s m args below meth c H locs cells slots Q (F0 m pc ls (.int (iI a) :: rest)) := lv_if_le hx hb hd ht (fun h => kt ((iI_le har (show iR 0 by decide)).mp h)) (fun h => kf (fun g => h ((iI_le har (show iR 0 by decide)).mpr g)))
theorem r_iinc (hx : p.tables.exec = Jvm.exec) (hb : c.code = cc) {i nL k : Nat} {n x v : Int} {lv lv' : List (Nat × Value)} (hd : decode cc pc = .ok (.iinc i n, 3)) (h : lv_has ls nL lv) (hk : lv[k]? = some (i, .int (iI x))) (hv : x + n = v) (hn : i < nL) (hl : (i, Value.int (iI v)) :: lv.filter (fun q => !(q.1 == i) && !(q.1 + 1 == i && q.2.category == 2)) = lv')
    (kk : ∀ ls' : Array Slot, lv_has ls' nL lv' → W p l e R s m args below meth c H locs cells slots Q (F0 m (pc + 3) ls' rest)) : W p l e R s m args below meth c H locs cells slots Q (F0 m pc ls rest) := lv_iinc hx hb hd h hk (by rw [← hv]; exact iI_add x n) hn hl kk
theorem r_get (hx : p.tables.exec = Jvm.exec) (hb : c.code = cc) (hC : cx D τ s m args own) (hw : wS D A H0 ws H locs) {C : String} {T : u_T} {N ci index : Nat} (hin : ∀ w ∈ u_ws C T N, w ∈ lw_good) (hc : vwCl[ci]? = some (C, T, N)) (k : Nat) (hk : k < N) (hl : Cond.fieldLink own index C (T k).2.1 (T k).2.2.1 ∈ lw_good) (hsd : (T k).1 = C) (q0 : Nat) {fs : List Value} (he : ws[q0]? = some (a, .inr (ci, fs))) {v : Value} (hv : fs[k]? = some v) (hd : decode cc pc = .ok (.getfield index, 3)) (kk : W p l e R s m args below meth c H locs cells slots Q (F0 m (pc + 3) ls (v :: rest))) : W p l e R s m args below meth c H locs cells slots Q (F0 m pc ls (.ref a :: rest)) :=
  va_get hx hb hC.1 hin hC.2.1 hC.2.2.1 hw.1 q0 he hc k hk (hC.1 _ hl) (fun x h => by rw [hsd] at h; exact h) hv hd kk
theorem r_getN (hx : p.tables.exec = Jvm.exec) (hb : c.code = cc) (hC : cx D τ s m args own) (hw : wS D A H0 ws H locs) {C host : String} {T : u_T} {N ci index : Nat} (hin : ∀ w ∈ u_ws C T N, w ∈ lw_good) (hc : vwCl[ci]? = some (C, T, N)) (k : Nat) (hk : k < N) (hl : Cond.fieldLinkNest own index C (T k).2.1 (T k).2.2.1 host ∈ lw_nest) (hsd : (T k).1 = C) (q0 : Nat) {fs : List Value} (he : ws[q0]? = some (a, .inr (ci, fs))) {v : Value} (hv : fs[k]? = some v) (hd : decode cc pc = .ok (.getfield index, 3)) (kk : W p l e R s m args below meth c H locs cells slots Q (F0 m (pc + 3) ls (v :: rest))) : W p l e R s m args below meth c H locs cells slots Q (F0 m pc ls (.ref a :: rest)) :=
  va_getN hx hb hC.1 hin hC.2.1 hC.2.2.1 hw.1 q0 he hc k hk (va_Nw.use rfl (hC.2.2.2.1 _ hl)) (fun x h => by rw [hsd] at h; exact h) hv hd kk

theorem r_put (hx : p.tables.exec = Jvm.exec) (hb : c.code = cc) (hC : cx D τ s m args own) (hw : wS D A H0 ws H locs) {C : String} {T : u_T} {N ci index : Nat} (hin : ∀ w ∈ u_ws C T N, w ∈ lw_good) (ty0 : Nat → FieldType) (hty : ∀ k, k < N → parseFieldDescriptor (T k).2.2.1 = some (ty0 k)) (hnm : ∀ a, a < N → ∀ b, b < N → a ≠ b → (T a).2.1 ≠ (T b).2.1) (hc : vwCl[ci]? = some (C, T, N)) (k : Nat) (hk : k < N) (hl : Cond.fieldLink own index C (T k).2.1 (T k).2.2.1 ∈ lw_good) (hsd : (T k).1 = C) (hfin : (T k).2.2.2 = false) {ty : FieldType} {v : Value} (hpd : parseFieldDescriptor (T k).2.2.1 = some ty) (hnr : narrow ty v = v) (hfit : fits ty v = true) (q0 : Nat) {fs : List Value} {ws' : va_W} (he : ws[q0]? = some (a, .inr (ci, fs))) (hlen : k < fs.length) (hws : ws.set q0 (a, .inr (ci, fs.set k v)) = ws') (hd : decode cc pc = .ok (.putfield index, 3)) (kk : ∀ (H : Heap) (locs : List Loc), wS D A H0 ws' H locs → W p l e R s m args below meth c H locs cells slots Q (F0 m (pc + 3) ls rest)) : W p l e R s m args below meth c H locs cells slots Q (F0 m pc ls (v :: .ref a :: rest)) := by
  subst hws
  exact va_put hx hb hC.1 hin ty0 hty hnm hC.2.1 hC.2.2.1 hw.1 hw.2.1 hw.2.2 q0 he hc k hk (hC.1 _ hl) (fun x h => by rw [hsd] at h; exact h) hfin hpd hnr hfit hlen hd (fun H1 locs1 h1 h2 h3 => kk H1 locs1 ⟨h1, h2, h3⟩)
theorem r_putN (hx : p.tables.exec = Jvm.exec) (hb : c.code = cc) (hC : cx D τ s m args own) (hw : wS D A H0 ws H locs) {C host : String} {T : u_T} {N ci index : Nat} (hin : ∀ w ∈ u_ws C T N, w ∈ lw_good) (ty0 : Nat → FieldType) (hty : ∀ k, k < N → parseFieldDescriptor (T k).2.2.1 = some (ty0 k)) (hnm : ∀ a, a < N → ∀ b, b < N → a ≠ b → (T a).2.1 ≠ (T b).2.1) (hc : vwCl[ci]? = some (C, T, N)) (k : Nat) (hk : k < N) (hl : Cond.fieldLinkNest own index C (T k).2.1 (T k).2.2.1 host ∈ lw_nest) (hsd : (T k).1 = C) (hfin : (T k).2.2.2 = false) {ty : FieldType} {v : Value} (hpd : parseFieldDescriptor (T k).2.2.1 = some ty) (hnr : narrow ty v = v) (hfit : fits ty v = true) (q0 : Nat) {fs : List Value} {ws' : va_W} (he : ws[q0]? = some (a, .inr (ci, fs))) (hlen : k < fs.length) (hws : ws.set q0 (a, .inr (ci, fs.set k v)) = ws') (hd : decode cc pc = .ok (.putfield index, 3)) (kk : ∀ (H : Heap) (locs : List Loc), wS D A H0 ws' H locs → W p l e R s m args below meth c H locs cells slots Q (F0 m (pc + 3) ls rest)) : W p l e R s m args below meth c H locs cells slots Q (F0 m pc ls (v :: .ref a :: rest)) := by
  subst hws
  exact va_putN hx hb hC.1 hin ty0 hty hnm hC.2.1 hC.2.2.1 hw.1 hw.2.1 hw.2.2 q0 he hc k hk (va_Nw.use rfl (hC.2.2.2.1 _ hl)) (fun x h => by rw [hsd] at h; exact h) hfin hpd hnr hfit hlen hd (fun H1 locs1 h1 h2 h3 => kk H1 locs1 ⟨h1, h2, h3⟩)
theorem r_putF (hx : p.tables.exec = Jvm.exec) (hb : c.code = cc) (hC : cx D τ s m args own) (hw : wS D A H0 ws H locs) {C : String} (hoC : own = C) {T : u_T} {N ci index : Nat} (hin : ∀ w ∈ u_ws C T N, w ∈ lw_good) (ty0 : Nat → FieldType) (hty : ∀ k, k < N → parseFieldDescriptor (T k).2.2.1 = some (ty0 k)) (hnm : ∀ a, a < N → ∀ b, b < N → a ≠ b → (T a).2.1 ≠ (T b).2.1) (hc : vwCl[ci]? = some (C, T, N)) (k : Nat) (hk : k < N) (hl : Cond.fieldLink own index C (T k).2.1 (T k).2.2.1 ∈ lw_good) (hsd : (T k).1 = C) (hin2 : meth.name = "<init>") (hfin : (T k).2.2.2 = true) {ty : FieldType} {v : Value} (hpd : parseFieldDescriptor (T k).2.2.1 = some ty) (hnr : narrow ty v = v) (hfit : fits ty v = true) (q0 : Nat) {fs : List Value} {ws' : va_W} (he : ws[q0]? = some (a, .inr (ci, fs))) (hlen : k < fs.length) (hws : ws.set q0 (a, .inr (ci, fs.set k v)) = ws') (hd : decode cc pc = .ok (.putfield index, 3)) (kk : ∀ (H : Heap) (locs : List Loc), wS D A H0 ws' H locs → W p l e R s m args below meth c H locs cells slots Q (F0 m (pc + 3) ls rest)) : W p l e R s m args below meth c H locs cells slots Q (F0 m pc ls (v :: .ref a :: rest)) := by
  subst hws
  subst hoC
  exact va_putF hx hb hC.1 hin ty0 hty hnm hC.2.1 hC.2.2.1 hw.1 hw.2.1 hw.2.2 q0 he hc k hk (hC.1 _ hl) (fun x h => by rw [hsd] at h; exact h) hfin hin2 hsd hpd hnr hfit hlen hd (fun H1 locs1 h1 h2 h3 => kk H1 locs1 ⟨h1, h2, h3⟩)
theorem r_iald (hx : p.tables.exec = Jvm.exec) (hb : c.code = cc) (hC : cx D τ s m args own) (hw : wS D A H0 ws H locs) (q0 : Nat) {n : Nat} {g : Int → Int} {e2 : Int} (he : ws[q0]? = some (a, .inl (τ 0, n, .inl (ar g)))) (h0 : 0 ≤ e2) (h1 : e2 < (n : Int)) (hn : n ≤ 2147483647) (hd : decode cc pc = .ok (.iaload, 1)) (kk : W p l e R s m args below meth c H locs cells slots Q (F0 m (pc + 1) ls (.int (iI (g e2)) :: rest))) : W p l e R s m args below meth c H locs cells slots Q (F0 m pc ls (.int (iI e2) :: .ref a :: rest)) :=
  va_iald hx hb hC.2.2.1 hw.1 q0 0 he rfl (iI_in h0 h1 hn) hd (by rw [ar_get g h0 (by omega)]; exact kk)
theorem r_zald (hx : p.tables.exec = Jvm.exec) (hb : c.code = cc) (hC : cx D τ s m args own) (hw : wS D A H0 ws H locs) (q0 : Nat) {n : Nat} {g : Int → Int} {e2 : Int} (he : ws[q0]? = some (a, .inl (τ 2, n, .inl (ar g)))) (h0 : 0 ≤ e2) (h1 : e2 < (n : Int)) (hn : n ≤ 2147483647) (hd : decode cc pc = .ok (.baload, 1)) (kk : W p l e R s m args below meth c H locs cells slots Q (F0 m (pc + 1) ls (.int (iI (g e2)) :: rest))) : W p l e R s m args below meth c H locs cells slots Q (F0 m pc ls (.int (iI e2) :: .ref a :: rest)) :=
  va_zald hx hb hC.2.2.1 hw.1 q0 2 he rfl (iI_in h0 h1 hn) hd (by rw [ar_get g h0 (by omega)]; exact kk)
theorem r_lald (hx : p.tables.exec = Jvm.exec) (hb : c.code = cc) (hC : cx D τ s m args own) (hw : wS D A H0 ws H locs) (q0 : Nat) {n : Nat} {g : Int → Int} {e2 : Int} (he : ws[q0]? = some (a, .inl (τ 1, n, .inr (.inl (arL g))))) (h0 : 0 ≤ e2) (h1 : e2 < (n : Int)) (hn : n ≤ 2147483647) (hd : decode cc pc = .ok (.laload, 1)) (kk : W p l e R s m args below meth c H locs cells slots Q (F0 m (pc + 1) ls (.long (lI (g e2)) :: rest))) : W p l e R s m args below meth c H locs cells slots Q (F0 m pc ls (.int (iI e2) :: .ref a :: rest)) :=
  va_lald hx hb hC.2.2.1 hw.1 q0 1 he rfl (iI_in h0 h1 hn) hd (by rw [arL_get g h0 (by omega)]; exact kk)
theorem vz_nar {z : Int} (h : z = 0 ∨ z = 1) : vp_nar .boolean (iI z) = iI z := by rcases h with rfl | rfl <;> decide +kernel
theorem r_iast (hx : p.tables.exec = Jvm.exec) (hb : c.code = cc) (hC : cx D τ s m args own) (hw : wS D A H0 ws H locs) (q0 : Nat) {n : Nat} {g : Int → Int} {e2 x : Int} {ws' : va_W} (he : ws[q0]? = some (a, .inl (τ 0, n, .inl (ar g)))) (h0 : 0 ≤ e2) (h1 : e2 < (n : Int)) (hn : n ≤ 2147483647) (hws : ws.set q0 (a, .inl (τ 0, n, .inl (ar (up g e2 x)))) = ws') (hd : decode cc pc = .ok (.iastore, 1)) (kk : ∀ (H : Heap) (locs : List Loc), wS D A H0 ws' H locs → W p l e R s m args below meth c H locs cells slots Q (F0 m (pc + 1) ls rest)) : W p l e R s m args below meth c H locs cells slots Q (F0 m pc ls (.int (iI x) :: .int (iI e2) :: .ref a :: rest)) := by
  subst hws
  refine va_iast hx hb hC.2.2.1 hw.1 hw.2.1 hw.2.2 q0 0 he rfl (iI_in h0 h1 hn) hd (fun H1 locs1 h1 h2 h3 => ?_)
  rw [ar_set g h0 (by omega)] at h1 h2
  exact kk H1 locs1 ⟨h1, h2, h3⟩
theorem r_zast (hx : p.tables.exec = Jvm.exec) (hb : c.code = cc) (hC : cx D τ s m args own) (hw : wS D A H0 ws H locs) (q0 : Nat) {n : Nat} {g : Int → Int} {e2 x : Int} {ws' : va_W} (he : ws[q0]? = some (a, .inl (τ 2, n, .inl (ar g)))) (h0 : 0 ≤ e2) (h1 : e2 < (n : Int)) (hn : n ≤ 2147483647) (hx01 : x = 0 ∨ x = 1) (hws : ws.set q0 (a, .inl (τ 2, n, .inl (ar (up g e2 x)))) = ws') (hd : decode cc pc = .ok (.bastore, 1)) (kk : ∀ (H : Heap) (locs : List Loc), wS D A H0 ws' H locs → W p l e R s m args below meth c H locs cells slots Q (F0 m (pc + 1) ls rest)) : W p l e R s m args below meth c H locs cells slots Q (F0 m pc ls (.int (iI x) :: .int (iI e2) :: .ref a :: rest)) := by
  subst hws
  refine va_zast hx hb hC.2.2.1 hw.1 hw.2.1 hw.2.2 q0 2 he rfl (iI_in h0 h1 hn) hd (fun H1 locs1 h1 h2 h3 => ?_)
  rw [vz_nar hx01] at h1 h2; rw [ar_set g h0 (by omega)] at h1 h2
  exact kk H1 locs1 ⟨h1, h2, h3⟩
theorem r_last (hx : p.tables.exec = Jvm.exec) (hb : c.code = cc) (hC : cx D τ s m args own) (hw : wS D A H0 ws H locs) (q0 : Nat) {n : Nat} {g : Int → Int} {e2 x : Int} {ws' : va_W} (he : ws[q0]? = some (a, .inl (τ 1, n, .inr (.inl (arL g))))) (h0 : 0 ≤ e2) (h1 : e2 < (n : Int)) (hn : n ≤ 2147483647) (hws : ws.set q0 (a, .inl (τ 1, n, .inr (.inl (arL (up g e2 x))))) = ws') (hd : decode cc pc = .ok (.lastore, 1)) (kk : ∀ (H : Heap) (locs : List Loc), wS D A H0 ws' H locs → W p l e R s m args below meth c H locs cells slots Q (F0 m (pc + 1) ls rest)) : W p l e R s m args below meth c H locs cells slots Q (F0 m pc ls (.long (lI x) :: .int (iI e2) :: .ref a :: rest)) := by
  subst hws
  refine va_last hx hb hC.2.2.1 hw.1 hw.2.1 hw.2.2 q0 1 he rfl (iI_in h0 h1 hn) hd (fun H1 locs1 h1 h2 h3 => ?_)
  rw [arL_set g h0 (by omega)] at h1 h2
  exact kk H1 locs1 ⟨h1, h2, h3⟩
end RW
end
section
/-! CALLS, returns, new objects and arrays, in the words of the base. -/
theorem P_pick {D : va_G} {cl : List vw_C} {ws wc : va_W} {H : Heap} {is : List Nat} (hP : va_P D cl ws H) (hC : is.map (fun i => ws[i]?) = wc.map some) : va_P D cl wc H := fun k q hq => by
  have h1 : (is.map (fun i => ws[i]?))[k]? = some (some q) := by rw [hC, List.getElem?_map, hq]; rfl
  rw [List.getElem?_map] at h1
  cases hi : is[k]? with
  | none => rw [hi] at h1; cases h1
  | some i => rw [hi] at h1; exact hP i q (Option.some.inj h1)
theorem wS.pick {D : va_G} {A : Nat → Prop} {H0 H : Heap} {ws wc : va_W} {locs : List Loc} (hw : wS D A H0 ws H locs) (is : List Nat) (hn : va_nd is = true) (hC : is.map (fun i => ws[i]?) = wc.map some) : wS D A H0 wc H locs := ⟨P_pick hw.1 hC, hw.2.1.sub is hn hC, hw.2.2⟩
def KB (y : MethodName) (b : ByteArray) (mL : Nat) (ret : Option FieldType) (n : Nat) : Prop := Cond.initialized y.cls ∈ lw_good ∧ Cond.code y b mL ret ∈ lw_good ∧ (y.cls ≠ "java/lang/invoke/MethodHandle" ∧ y.cls ≠ "java/lang/invoke/VarHandle" ∧ (parseMethodDescriptor y.desc).map (fun d => d.parameters.length) = some n)
def KV (y : MethodName) (b : ByteArray) (mL : Nat) (ret : Option FieldType) (n : Nat) : Prop := (Cond.instanceMethod y ∈ lw_good ∧ Cond.selects y.cls y y ∈ lw_good) ∧ KB y b mL ret n
def KS (y : MethodName) (b : ByteArray) (mL : Nat) (ret : Option FieldType) (n : Nat) : Prop := Cond.static y ∈ lw_good ∧ KB y b mL ret n
def KI (y : MethodName) (b : ByteArray) (mL : Nat) (ret : Option FieldType) (n : Nat) : Prop := (y.name = "<init>" ∧ Cond.instanceMethod y ∈ lw_good) ∧ KB y b mL ret n
theorem KB.ws {y : MethodName} {b : ByteArray} {mL : Nat} {ret : Option FieldType} {n : Nat} (K : KB y b mL ret n) : ∀ w ∈ lw_w y b mL ret, w ∈ lw_good := fun w h => by
  rcases List.mem_cons.mp h with h | h
  · rw [h]; exact K.2.1
  · exact h
theorem mem1 {P : Cond → Prop} {a : Cond} {l : List Cond} (h : P a) (hl : ∀ w ∈ l, P w) : ∀ w ∈ a :: l, P w := fun w hw => by
  rcases List.mem_cons.mp hw with h1 | h1
  · rw [h1]; exact h
  · exact hl w h1
theorem g_wsV {own : String} {idx : Nat} {y : MethodName} {b : ByteArray} {mL : Nat} {ret : Option FieldType} {n : Nat} (K : KV y b mL ret n) (h : Cond.methodLink own idx y ∈ lw_good) : GoodIn lw_good (wsV own idx y.cls y (lw_w y b mL ret)) :=
  g_good (fun _ h => h) (by unfold wsV; exact mem1 h (mem1 K.1.1 (mem1 K.1.2 (mem1 K.2.1 K.2.ws))))
theorem g_wsS {own : String} {idx : Nat} {y : MethodName} {b : ByteArray} {mL : Nat} {ret : Option FieldType} {n : Nat} (K : KS y b mL ret n) (h : Cond.methodLink own idx y ∈ lw_good) : GoodIn lw_good (va_wsS own idx y (lw_w y b mL ret)) :=
  g_good (fun _ h => h) (by unfold va_wsS; exact mem1 h (mem1 K.1 (mem1 K.2.1 K.2.ws)))
theorem K_same {D : va_G} {cl : List vw_C} {tys : List (ClassId × FieldType)} {cA cB : ClassId} {k : Nat} {ty : FieldType} {U : State} (hK : va_K D cl (tys ++ [(cA, ty)]) U) (h : tys[k]? = some (cB, ty)) : cA = cB := by
  have hl : k < tys.length := (List.getElem?_eq_some_iff.mp h).1
  have h1 := (hK.2 k (cB, ty) (by rw [List.getElem?_append_left hl]; exact h)).2
  have h2 := (hK.2 tys.length (cA, ty) (by rw [List.getElem?_append_right (Nat.le_refl _)]; simp)).2
  unfold va_RA at h1 h2
  cases ty with
  | object C =>
    obtain ⟨_, _, -, -, -, q1⟩ := h1
    obtain ⟨_, _, -, -, -, q2⟩ := h2
    exact Option.some.inj (q2.symm.trans q1)
  | _ => exact Option.some.inj (h2.symm.trans h1)
section RC
variable {p : Program} {l : Launch} {e : Env} {R : Room} {s : State} {m : MethodId} {args : Array Value} {below : List Frame} {meth : Method} {c : Code} {H : Heap} {locs : List Loc} {cells slots : Nat} {Q : State → Prop}
variable {cc : ByteArray} {pc : Nat} {ls : Array Slot} {rest st0 : List Value} {D : va_G} {A : Nat → Prop} {a : Nat} {ws wc wr : va_W} {H0 : Heap} {τ : Nat → ClassId} {own : String}
variable {y : MethodName} {b : ByteArray} {mL n lev mc ms index nL cells' slots' : Nat} {ret : Option FieldType} {As : List Value}
/-- behind a call: the rest of the world, and what came back -/
theorem g_behind {E : va_W → Prop} {t : State} {H1 : Heap} {locs1 : List Loc} {isC isR : List Nat} (hw : wS D A H0 ws H locs) (hA : ∀ q, H0.size ≤ q → A q) (hC : isC.map (fun i => ws[i]?) = wc.map some) (hR : isR.map (fun i => ws[i]?) = wr.map some) (hn : va_nd isR = true) (hdis : ∀ i ∈ isR, i ∉ isC) (ht : t.heap = H1) (hk : ∀ q : Nat, q < H.size → ¬ va_A wc H.size q → H1[q]? = H[q]?) (hS : va_S A H0 H1 locs1) (hB : gW D (va_A wc H.size) E t) : ∃ w1 : va_W, E w1 ∧ wS D A H0 (wr ++ w1) H1 locs1 := by
  obtain ⟨w1, hE, hP1, hD1⟩ := hB
  rw [ht] at hP1
  obtain ⟨h1, h2⟩ := va_join hw.1 hw.2.1 isC isR hC hR hn hdis hk (va_free hw.2.1 hw.2.2 hA isC hC) hP1 hD1
  exact ⟨w1, hE, h1, h2, hS⟩
theorem g_pre {isC : List Nat} (hC' : cx D τ s m args own) (hw : wS D A H0 ws H locs) (hC : isC.map (fun i => ws[i]?) = wc.map some) (hn : va_nd isC = true) {Bs : List Value} : ∀ U : State, U.heap = H → s.WarmedH U.vm → gPc D τ wc H.size Bs Bs.toArray U := fun U hU hW => ⟨rfl, by rw [hU], by rw [hU]; exact P_pick hw.1 hC, ⟨va_K.moved hW.alike hC'.2.2.1, NX.warm hW hC'.2.2.2⟩, (hw.2.1.sub isC hn hC).weaken (fun _ _ _ _ => trivial)⟩

theorem g_cIv (hx : p.tables.exec = Jvm.exec) (hb : c.code = cc) (hml : c.maxLocals = nL) (hC : cx D τ s m args own) (hA : ∀ q, H0.size ≤ q → A q) (hw : wS D A H0 ws H locs) (hl : ls.size = nL) {E : va_W → Prop} (M : Met l y (lw_w y b mL none) (rmk lev mc ms) (gPc D τ wc H.size (.ref a :: As)) (gQv D E (va_A wc H.size)) mc ms (va_A wc H.size)) (K : KI y b mL none n) (hlk : Cond.methodLink own index y ∈ lw_good) (isC isR : List Nat) (hCm : isC.map (fun i => ws[i]?) = wc.map some) (hRm : isR.map (fun i => ws[i]?) = wr.map some) (hnC : va_nd isC = true) (hnR : va_nd isR = true) (hdis : ∀ i ∈ isR, i ∉ isC) (hst : st0 = As.reverse ++ .ref a :: rest) (hn : As.length = n) (hcat : (rest.map fun v => v.category).sum ≤ 8) (hroom : lev + 1 ≤ R.frames ∧ 8 + (mL + 11) + 64 * lev ≤ R.locals) (hcs : cells + mc ≤ R.cells ∧ slots + ms ≤ R.slots) (hc2 : cells + mc = cells') (hs2 : slots + ms = slots') (hd : decode cc pc = .ok (.invokespecial index, 3))
    (kk : ∀ (w1 : va_W) (H : Heap) (locs : List Loc), E w1 → wS D A H0 (wr ++ w1) H locs → W p l e R s m args below meth c H locs cells' slots' Q (F0 m (pc + 3) ls rest)) : W p l e R s m args below meth c H locs cells slots Q (F0 m pc ls st0) := by
  have hF := va_free hw.2.1 hw.2.2 hA isC hCm
  refine va_callv (va_runI ⟨hx, hb, hml, hC.2.1, hC.1⟩ M (cwI n hC.1 (g_good (fun _ h => h) K.2.ws) rfl rfl rfl (hC.1 _ K.2.1) (hC.1 _ hlk) (hC.1 _ K.1.2) K.1.1 K.2.2.2 hroom) ⟨gPc_blind, g_pre hC hw hCm hnC⟩ rfl hn hl hst (lv_room hcat) hd hcs) hw.2.2 (fun q _ h => hF q h) hF (fun u t H1 locs1 ht hvm hp hB hsz hk1 hS => ?_)
  obtain ⟨w1, hE, h1⟩ := g_behind hw hA hCm hRm hnR hdis ht hk1 hS hB
  subst hc2
  subst hs2
  exact kk w1 H1 locs1 hE h1
theorem g_cINv (hx : p.tables.exec = Jvm.exec) (hb : c.code = cc) (hml : c.maxLocals = nL) (hC : cx D τ s m args own) (hA : ∀ q, H0.size ≤ q → A q) (hw : wS D A H0 ws H locs) (hl : ls.size = nL) {E : va_W → Prop} {host : String} (M : Met l y (lw_w y b mL none) (rmk lev mc ms) (gPc D τ wc H.size (.ref a :: As)) (gQv D E (va_A wc H.size)) mc ms (va_A wc H.size)) (K : KI y b mL none n) (hlk : Cond.methodLinkNest own index y host ∈ lw_nest) (isC isR : List Nat) (hCm : isC.map (fun i => ws[i]?) = wc.map some) (hRm : isR.map (fun i => ws[i]?) = wr.map some) (hnC : va_nd isC = true) (hnR : va_nd isR = true) (hdis : ∀ i ∈ isR, i ∉ isC) (hst : st0 = As.reverse ++ .ref a :: rest) (hn : As.length = n) (hcat : (rest.map fun v => v.category).sum ≤ 8) (hroom : lev + 1 ≤ R.frames ∧ 8 + (mL + 11) + 64 * lev ≤ R.locals) (hcs : cells + mc ≤ R.cells ∧ slots + ms ≤ R.slots) (hc2 : cells + mc = cells') (hs2 : slots + ms = slots') (hd : decode cc pc = .ok (.invokespecial index, 3))
    (kk : ∀ (w1 : va_W) (H : Heap) (locs : List Loc), E w1 → wS D A H0 (wr ++ w1) H locs → W p l e R s m args below meth c H locs cells' slots' Q (F0 m (pc + 3) ls rest)) : W p l e R s m args below meth c H locs cells slots Q (F0 m pc ls st0) := by
  have hF := va_free hw.2.1 hw.2.2 hA isC hCm
  refine va_callv (va_runIN ⟨hx, hb, hml, hC.2.1, hC.1⟩ M ⟨va_cnB n hC.1 (g_good (fun _ h => h) K.2.ws) rfl rfl rfl (hC.2.2.2.1 _ hlk) (hC.1 _ K.2.1) K.2.2.2 hroom, K.1.1, hC.1 _ K.1.2⟩ ⟨gPc_blind, g_pre hC hw hCm hnC⟩ rfl hn hl hst (lv_room hcat) hd hcs) hw.2.2 (fun q _ h => hF q h) hF (fun u t H1 locs1 ht hvm hp hB hsz hk1 hS => ?_)
  obtain ⟨w1, hE, h1⟩ := g_behind hw hA hCm hRm hnR hdis ht hk1 hS hB
  subst hc2
  subst hs2
  exact kk w1 H1 locs1 hE h1
theorem r_iret (hx : p.tables.exec = Jvm.exec) (hb : c.code = cc) (hr : meth.sig.returnType = some .int) (hlk : meth.locks = false) (hw : wS D A s.heap ws H locs) {E : Int → va_W → Prop} (w1 : va_W) (is : List Nat) (hpick : is.map (fun i => ws[i]?) = w1.map some) (hnd : va_nd is = true) {z : Int} (hz : iR z) (hE : E z w1) (hd : decode cc pc = .ok (.ireturn, 1)) : W p l e R s m args below meth c H locs cells slots (MQ below (gQi D E A) args s cells slots A) (F0 m pc ls [.int (iI z)]) :=
  W.iret hx hb hr (fun t ht hW => ⟨⟨iI z, iI z, rfl, rfl, z, hz, rfl, w1, hE, by rw [ht]; exact P_pick hw.1 hpick, hw.2.1.sub is hnd hpick⟩, hw.2.2.F ht⟩) hw.2.2.2.2 hd hlk
theorem r_zret (hx : p.tables.exec = Jvm.exec) (hb : c.code = cc) (hr : meth.sig.returnType = some .boolean) (hlk : meth.locks = false) (hw : wS D A s.heap ws H locs) {E : Int → va_W → Prop} (w1 : va_W) (is : List Nat) (hpick : is.map (fun i => ws[i]?) = w1.map some) (hnd : va_nd is = true) {z : Int} (hz : iR z) (h01 : z = 0 ∨ z = 1) (hE : E z w1) (hd : decode cc pc = .ok (.ireturn, 1)) : W p l e R s m args below meth c H locs cells slots (MQ below (gQi D E A) args s cells slots A) (F0 m pc ls [.int (iI z)]) :=
  W.zret hx hb hr (by rcases h01 with rfl | rfl <;> rfl) (fun t ht hW => ⟨⟨iI z, iI z, rfl, rfl, z, hz, rfl, w1, hE, by rw [ht]; exact P_pick hw.1 hpick, hw.2.1.sub is hnd hpick⟩, hw.2.2.F ht⟩) hw.2.2.2.2 hd hlk
theorem r_lret (hx : p.tables.exec = Jvm.exec) (hb : c.code = cc) (hr : meth.sig.returnType = some .long) (hlk : meth.locks = false) (hw : wS D A s.heap ws H locs) {E : Int → va_W → Prop} (w1 : va_W) (is : List Nat) (hpick : is.map (fun i => ws[i]?) = w1.map some) (hnd : va_nd is = true) {z : Int} (hz : lR z) (hE : E z w1) (hd : decode cc pc = .ok (.lreturn, 1)) : W p l e R s m args below meth c H locs cells slots (MQ below (gQl D E A) args s cells slots A) (F0 m pc ls [.long (lI z)]) :=
  W.lret hx hb hr (fun t ht hW => ⟨⟨lI z, lI z, rfl, rfl, z, hz, rfl, w1, hE, by rw [ht]; exact P_pick hw.1 hpick, hw.2.1.sub is hnd hpick⟩, hw.2.2.F ht⟩) hw.2.2.2.2 hd hlk
theorem r_vret (hx : p.tables.exec = Jvm.exec) (hb : c.code = cc) (hr : meth.sig.returnType = none) (hlk : meth.locks = false) (hw : wS D A s.heap ws H locs) {E : va_W → Prop} (w1 : va_W) (is : List Nat) (hpick : is.map (fun i => ws[i]?) = w1.map some) (hnd : va_nd is = true) (hE : E w1) (hd : decode cc pc = .ok (.return_, 1)) : W p l e R s m args below meth c H locs cells slots (MQ below (gQv D E A) args s cells slots A) (F0 m pc ls []) :=
  W.vret hx hb hr (fun t ht hW => ⟨⟨(), rfl, trivial, w1, hE, by rw [ht]; exact P_pick hw.1 hpick, hw.2.1.sub is hnd hpick⟩, hw.2.2.F ht⟩) hw.2.2.2.2 hd hlk
theorem r_objInit (hx : p.tables.exec = Jvm.exec) (hb : c.code = cc) (hml : c.maxLocals = nL) (hC : cx D τ s m args own) (hl : ls.size = nL) (h1 : Cond.methodLink own index objectInit ∈ lw_good) (h2 : Cond.instanceMethod objectInit ∈ lw_good) (h3 : Cond.code objectInit ⟨#[0xb1]⟩ 1 none ∈ lw_good) (hfr : 1 ≤ R.frames) (hcat : (rest.map fun v => v.category).sum ≤ 8) (hlo : 20 ≤ R.locals) (hd : decode cc pc = .ok (.invokespecial index, 3)) (kk : W p l e R s m args below meth c H locs cells slots Q (F0 m (pc + 3) ls rest)) : W p l e R s m args below meth c H locs cells slots Q (F0 m pc ls (.ref a :: rest)) :=
  W.objInit hx hb hC.2.1 (hC.1 _ h1) (hC.1 _ h2) (hC.1 _ h3) rfl (hl.trans hml.symm) rfl hd hfr (by have := lv_room (m := m) (pc := pc) (ls := ls) (rest := rest) hcat; simp only [F0] at this ⊢; omega) kk
theorem r_new (hx : p.tables.exec = Jvm.exec) (hb : c.code = cc) (hC : cx D τ s m args own) (hA : ∀ q, H0.size ≤ q → A q) (hw : wS D A H0 ws H locs) {C : String} {T : u_T} {N ci : Nat} (hin : ∀ w ∈ u_ws C T N, w ∈ lw_good) (ty0 : Nat → FieldType) (hty : ∀ k, k < N → parseFieldDescriptor (T k).2.2.1 = some (ty0 k)) (hc : vwCl[ci]? = some (C, T, N)) (h1 : Cond.classLink own index C ∈ lw_good) (h2 : Cond.instantiable C N ∈ lw_good) (h3 : Cond.initialized C ∈ lw_good) {fs : List Value} (hfs : ∀ j, j < N → defaultValue (ty0 j) = vp_V fs j) (hcells : cells + 1 ≤ R.cells) (hslots : slots + N ≤ R.slots) (hc2 : cells + 1 = cells') (hs2 : slots + N = slots') (hd : decode cc pc = .ok (.new index, 3))
    (kk : ∀ (q : Nat) (H : Heap), wS D A H0 (ws ++ [(q, .inr (ci, fs))]) H locs → W p l e R s m args below meth c H locs cells' slots' Q (F0 m (pc + 3) ls (.ref q :: rest))) : W p l e R s m args below meth c H locs cells slots Q (F0 m pc ls rest) := by
  subst hc2
  subst hs2
  exact va_new hx hb hC.1 hin ty0 hty hC.2.1 (hC.1 _ h1) (hC.1 _ h2) (hC.1 _ h3) hC.2.2.1 hw.1 hw.2.1 hw.2.2 hA hc hfs hcells hslots hd (fun q H1 g1 g2 g3 => kk q H1 ⟨g1, g2, g3⟩)
theorem r_newi (hx : p.tables.exec = Jvm.exec) (hb : c.code = cc) (hC : cx D τ s m args own) (hA : ∀ q, H0.size ≤ q → A q) (hw : wS D A H0 ws H locs) (hw1 : Cond.arrayClass .int ∈ lw_good) {z : Int} {N : Nat} (hz : z = (N : Int)) (hN : N ≤ 100000) (hcells : cells + 1 ≤ R.cells) (hslots : slots + N ≤ R.slots) (hc2 : cells + 1 = cells') (hs2 : slots + N = slots') (hd : decode cc pc = .ok (.newarray .int, 2))
    (kk : ∀ (q : Nat) (H : Heap), wS D A H0 (ws ++ [(q, .inl (τ 0, N, .inl (ar (fun _ => 0))))]) H locs → W p l e R s m args below meth c H locs cells' slots' Q (F0 m (pc + 2) ls (.ref q :: rest))) : W p l e R s m args below meth c H locs cells slots Q (F0 m pc ls (.int (iI z) :: rest)) := by
  subst hc2
  subst hs2
  subst hz
  refine va_newa (atype := .int) hx hb (hC.1 _ hw1) rfl hC.2.2.1 hw.1 hw.2.1 hw.2.2 hA (a0 := (N, .inl (ar (fun _ => 0)))) (fun cA => rfl) (iI_nn ⟨by omega, by omega⟩ (by omega)) (by rw [iI_clamp ⟨by omega, by omega⟩]; exact Int.toNat_natCast N) (by show N * 4 ≤ _; omega) hcells hslots hd (fun q cA H1 g0 g1 g2 g3 => ?_)
  have hA1 : cA = τ 0 := K_same g0 (k := 0) rfl
  subst hA1
  exact kk q H1 ⟨g1, g2, g3⟩
theorem r_newl (hx : p.tables.exec = Jvm.exec) (hb : c.code = cc) (hC : cx D τ s m args own) (hA : ∀ q, H0.size ≤ q → A q) (hw : wS D A H0 ws H locs) (hw1 : Cond.arrayClass .long ∈ lw_good) {z : Int} {N : Nat} (hz : z = (N : Int)) (hN : N ≤ 100000) (hcells : cells + 1 ≤ R.cells) (hslots : slots + N ≤ R.slots) (hc2 : cells + 1 = cells') (hs2 : slots + N = slots') (hd : decode cc pc = .ok (.newarray .long, 2))
    (kk : ∀ (q : Nat) (H : Heap), wS D A H0 (ws ++ [(q, .inl (τ 1, N, .inr (.inl (arL (fun _ => 0)))))]) H locs → W p l e R s m args below meth c H locs cells' slots' Q (F0 m (pc + 2) ls (.ref q :: rest))) : W p l e R s m args below meth c H locs cells slots Q (F0 m pc ls (.int (iI z) :: rest)) := by
  subst hc2
  subst hs2
  subst hz
  refine va_newa (atype := .long) hx hb (hC.1 _ hw1) rfl hC.2.2.1 hw.1 hw.2.1 hw.2.2 hA (a0 := (N, .inr (.inl (arL (fun _ => 0))))) (fun cA => rfl) (iI_nn ⟨by omega, by omega⟩ (by omega)) (by rw [iI_clamp ⟨by omega, by omega⟩]; exact Int.toNat_natCast N) (by show N * 8 ≤ _; omega) hcells hslots hd (fun q cA H1 g0 g1 g2 g3 => ?_)
  have hA1 : cA = τ 1 := K_same g0 (k := 1) rfl
  subst hA1
  exact kk q H1 ⟨g1, g2, g3⟩
theorem r_newz (hx : p.tables.exec = Jvm.exec) (hb : c.code = cc) (hC : cx D τ s m args own) (hA : ∀ q, H0.size ≤ q → A q) (hw : wS D A H0 ws H locs) (hw1 : Cond.arrayClass .boolean ∈ lw_good) {z : Int} {N : Nat} (hz : z = (N : Int)) (hN : N ≤ 100000) (hcells : cells + 1 ≤ R.cells) (hslots : slots + N ≤ R.slots) (hc2 : cells + 1 = cells') (hs2 : slots + N = slots') (hd : decode cc pc = .ok (.newarray .boolean, 2))
    (kk : ∀ (q : Nat) (H : Heap), wS D A H0 (ws ++ [(q, .inl (τ 2, N, .inl (ar (fun _ => 0))))]) H locs → W p l e R s m args below meth c H locs cells' slots' Q (F0 m (pc + 2) ls (.ref q :: rest))) : W p l e R s m args below meth c H locs cells slots Q (F0 m pc ls (.int (iI z) :: rest)) := by
  subst hc2
  subst hs2
  subst hz
  refine va_newa (atype := .boolean) hx hb (hC.1 _ hw1) rfl hC.2.2.1 hw.1 hw.2.1 hw.2.2 hA (a0 := (N, .inl (ar (fun _ => 0)))) (fun cA => rfl) (iI_nn ⟨by omega, by omega⟩ (by omega)) (by rw [iI_clamp ⟨by omega, by omega⟩]; exact Int.toNat_natCast N) (by show N * 1 ≤ _; omega) hcells hslots hd (fun q cA H1 g0 g1 g2 g3 => ?_)
  have hA1 : cA = τ 2 := K_same g0 (k := 2) rfl
  subst hA1
  exact kk q H1 ⟨g1, g2, g3⟩
theorem r_mmax (hx : p.tables.exec = Jvm.exec) (hb : c.code = cc) (hml : c.maxLocals = nL) (hC : cx D τ s m args own) (hl : ls.size = nL) (h1 : Cond.methodLink own index Lib.Math.max.name ∈ lw_good) (h2 : Cond.static Lib.Math.max.name ∈ lw_good) (h3 : Cond.initialized "java/lang/Math" ∈ lw_good) (h4 : Cond.code Lib.Math.max.name Lib.Math.max.code 2 (some .int) ∈ lw_good) (hfr : 1 ≤ R.frames) (hlo : (rest.map fun v => v.category).sum + 13 ≤ R.locals) (hcs : cells ≤ R.cells) (hss : slots ≤ R.slots) {x y : Int} (hrx : iR x) (hry : iR y) (hd : decode cc pc = .ok (.invokestatic index, 3)) (kk : ∀ z : Int, z = max x y → W p l e R s m args below meth c H locs cells slots Q (F0 m (pc + 3) ls (.int (iI z) :: rest))) : W p l e R s m args below meth c H locs cells slots Q (F0 m pc ls (.int (iI y) :: .int (iI x) :: rest)) := by
  refine va_mmax hx hb (hml.trans hl.symm) hC.2.1 (hC.1 _ h1) (hC.1 _ h2) (hC.1 _ h3) (hC.1 _ h4) hfr hlo hcs hss hd ?_
  have h9 := kk _ rfl
  by_cases q : x < y
  · rw [if_pos ((iI_lt hrx hry).mpr q)]
    rwa [show max x y = y by omega] at h9
  · rw [if_neg (fun g => q ((iI_lt hrx hry).mp g))]
    rwa [show max x y = x by omega] at h9
theorem r_mmin (hx : p.tables.exec = Jvm.exec) (hb : c.code = cc) (hml : c.maxLocals = nL) (hC : cx D τ s m args own) (hl : ls.size = nL) (h1 : Cond.methodLink own index Lib.Math.min.name ∈ lw_good) (h2 : Cond.static Lib.Math.min.name ∈ lw_good) (h3 : Cond.initialized "java/lang/Math" ∈ lw_good) (h4 : Cond.code Lib.Math.min.name Lib.Math.min.code 2 (some .int) ∈ lw_good) (hfr : 1 ≤ R.frames) (hlo : (rest.map fun v => v.category).sum + 13 ≤ R.locals) (hcs : cells ≤ R.cells) (hss : slots ≤ R.slots) {x y : Int} (hrx : iR x) (hry : iR y) (hd : decode cc pc = .ok (.invokestatic index, 3)) (kk : ∀ z : Int, z = min x y → W p l e R s m args below meth c H locs cells slots Q (F0 m (pc + 3) ls (.int (iI z) :: rest))) : W p l e R s m args below meth c H locs cells slots Q (F0 m pc ls (.int (iI y) :: .int (iI x) :: rest)) := by
  refine va_mmin hx hb (hml.trans hl.symm) hC.2.1 (hC.1 _ h1) (hC.1 _ h2) (hC.1 _ h3) (hC.1 _ h4) hfr hlo hcs hss hd ?_
  have h9 := kk _ rfl
  by_cases q : y < x
  · rw [if_pos ((iI_lt hry hrx).mpr q)]
    rwa [show min x y = y by omega] at h9
  · rw [if_neg (fun g => q ((iI_lt hry hrx).mp g))]
    rwa [show min x y = x by omega] at h9
end RC
end
section
theorem nh_RX11 : RX11 ≠ "java/lang/invoke/MethodHandle" ∧ RX11 ≠ "java/lang/invoke/VarHandle" := by decide +kernel
theorem nh_RX9 : RX9 ≠ "java/lang/invoke/MethodHandle" ∧ RX9 ≠ "java/lang/invoke/VarHandle" := by decide +kernel
theorem nh_RX8 : RX8 ≠ "java/lang/invoke/MethodHandle" ∧ RX8 ≠ "java/lang/invoke/VarHandle" := by decide +kernel
theorem nh_RX6 : RX6 ≠ "java/lang/invoke/MethodHandle" ∧ RX6 ≠ "java/lang/invoke/VarHandle" := by decide +kernel
theorem nh_RX10 : RX10 ≠ "java/lang/invoke/MethodHandle" ∧ RX10 ≠ "java/lang/invoke/VarHandle" := by decide +kernel
theorem nh_RX1 : RX1 ≠ "java/lang/invoke/MethodHandle" ∧ RX1 ≠ "java/lang/invoke/VarHandle" := by decide +kernel
theorem nh_RX4 : RX4 ≠ "java/lang/invoke/MethodHandle" ∧ RX4 ≠ "java/lang/invoke/VarHandle" := by decide +kernel
theorem nh_RX7 : RX7 ≠ "java/lang/invoke/MethodHandle" ∧ RX7 ≠ "java/lang/invoke/VarHandle" := by decide +kernel
theorem nh_RX3 : RX3 ≠ "java/lang/invoke/MethodHandle" ∧ RX3 ≠ "java/lang/invoke/VarHandle" := by decide +kernel
theorem nh_RX0 : RX0 ≠ "java/lang/invoke/MethodHandle" ∧ RX0 ≠ "java/lang/invoke/VarHandle" := by decide +kernel
theorem nh_RX5 : RX5 ≠ "java/lang/invoke/MethodHandle" ∧ RX5 ≠ "java/lang/invoke/VarHandle" := by decide +kernel
theorem nh_RX2 : RX2 ≠ "java/lang/invoke/MethodHandle" ∧ RX2 ≠ "java/lang/invoke/VarHandle" := by decide +kernel
theorem nh_RJ0 : RJ0 ≠ "java/lang/invoke/MethodHandle" ∧ RJ0 ≠ "java/lang/invoke/VarHandle" := by decide +kernel
theorem nh_RJ1 : RJ1 ≠ "java/lang/invoke/MethodHandle" ∧ RJ1 ≠ "java/lang/invoke/VarHandle" := by decide +kernel
theorem nh_RJ3 : RJ3 ≠ "java/lang/invoke/MethodHandle" ∧ RJ3 ≠ "java/lang/invoke/VarHandle" := by decide +kernel
theorem nh_RJ6 : RJ6 ≠ "java/lang/invoke/MethodHandle" ∧ RJ6 ≠ "java/lang/invoke/VarHandle" := by decide +kernel
theorem nh_RX12 : RX12 ≠ "java/lang/invoke/MethodHandle" ∧ RX12 ≠ "java/lang/invoke/VarHandle" := by decide +kernel
theorem nh_RJ7 : RJ7 ≠ "java/lang/invoke/MethodHandle" ∧ RJ7 ≠ "java/lang/invoke/VarHandle" := by decide +kernel
theorem pd_0 : (parseMethodDescriptor "()V").map (fun d => d.parameters.length) = some 0 := by decide +kernel
theorem pd_1 : (parseMethodDescriptor "(LBehindAnotherHearse$Street;)V").map (fun d => d.parameters.length) = some 1 := by decide +kernel
theorem pd_2 : (parseMethodDescriptor "(II)V").map (fun d => d.parameters.length) = some 2 := by decide +kernel
theorem pd_3 : (parseMethodDescriptor "(I)V").map (fun d => d.parameters.length) = some 1 := by decide +kernel
theorem pd_4 : (parseMethodDescriptor "(I)I").map (fun d => d.parameters.length) = some 1 := by decide +kernel
theorem pd_5 : (parseMethodDescriptor "(I)Z").map (fun d => d.parameters.length) = some 1 := by decide +kernel
theorem pd_6 : (parseMethodDescriptor "()I").map (fun d => d.parameters.length) = some 0 := by decide +kernel
theorem pd_7 : (parseMethodDescriptor "(LBehindAnotherHearse$Text;)V").map (fun d => d.parameters.length) = some 1 := by decide +kernel
theorem pd_8 : (parseMethodDescriptor "()Z").map (fun d => d.parameters.length) = some 0 := by decide +kernel
theorem pd_9 : (parseMethodDescriptor "(Z)I").map (fun d => d.parameters.length) = some 1 := by decide +kernel
theorem pd_10 : (parseMethodDescriptor "(LBehindAnotherHearse$Scene;)V").map (fun d => d.parameters.length) = some 1 := by decide +kernel
theorem pd_11 : (parseMethodDescriptor "(II)I").map (fun d => d.parameters.length) = some 2 := by decide +kernel
theorem pd_12 : (parseMethodDescriptor "(LBehindAnotherHearse$Text;LBehindAnotherHearse$Law;)I").map (fun d => d.parameters.length) = some 2 := by decide +kernel
theorem pd_13 : (parseMethodDescriptor "(LBehindAnotherHearse$Text;LBehindAnotherHearse$Law;)Z").map (fun d => d.parameters.length) = some 2 := by decide +kernel
theorem pd_14 : (parseMethodDescriptor "()B").map (fun d => d.parameters.length) = some 0 := by decide +kernel
theorem pd_15 : (parseMethodDescriptor "([BIII)I").map (fun d => d.parameters.length) = some 4 := by decide +kernel
theorem pd_18 : (parseMethodDescriptor "(III)V").map (fun d => d.parameters.length) = some 3 := by decide +kernel
theorem pd_19 : (parseMethodDescriptor "(IIILjava/util/function/BiFunction;)I").map (fun d => d.parameters.length) = some 4 := by decide +kernel
theorem pd_20 : (parseMethodDescriptor "([BI)C").map (fun d => d.parameters.length) = some 2 := by decide +kernel
theorem pd_21 : (parseMethodDescriptor "(I)C").map (fun d => d.parameters.length) = some 1 := by decide +kernel
theorem pd_22 : (parseMethodDescriptor "(LBehindAnotherHearse$Law;I)V").map (fun d => d.parameters.length) = some 2 := by decide +kernel
theorem pd_23 : (parseMethodDescriptor "(IIII)I").map (fun d => d.parameters.length) = some 4 := by decide +kernel
theorem pd_24 : (parseMethodDescriptor "(LBehindAnotherHearse$Scene;LBehindAnotherHearse$Law;I)V").map (fun d => d.parameters.length) = some 3 := by decide +kernel
theorem pd_25 : (parseMethodDescriptor "(LBehindAnotherHearse$Scene;LBehindAnotherHearse$Law;)V").map (fun d => d.parameters.length) = some 2 := by decide +kernel
theorem pd_26 : (parseMethodDescriptor "(LBehindAnotherHearse$Scene;LBehindAnotherHearse$Street;I)V").map (fun d => d.parameters.length) = some 3 := by decide +kernel
theorem pd_27 : (parseMethodDescriptor "([II)I").map (fun d => d.parameters.length) = some 2 := by decide +kernel
theorem pd_28 : (parseMethodDescriptor "(III)I").map (fun d => d.parameters.length) = some 3 := by decide +kernel
theorem pd_29 : (parseMethodDescriptor "(LBehindAnotherHearse$Scene;I)V").map (fun d => d.parameters.length) = some 2 := by decide +kernel
theorem pd_30 : (parseMethodDescriptor "(JJ)V").map (fun d => d.parameters.length) = some 2 := by decide +kernel
theorem pd_31 : (parseMethodDescriptor "(J)V").map (fun d => d.parameters.length) = some 1 := by decide +kernel
theorem pd_32 : (parseMethodDescriptor "(IILBehindAnotherHearse$Street;)I").map (fun d => d.parameters.length) = some 3 := by decide +kernel
theorem pd_33 : (parseMethodDescriptor "(LBehindAnotherHearse$Scene;)Z").map (fun d => d.parameters.length) = some 1 := by decide +kernel
theorem pd_34 : (parseMethodDescriptor "(II)Z").map (fun d => d.parameters.length) = some 2 := by decide +kernel
theorem pd_35 : (parseMethodDescriptor "(LBehindAnotherHearse$Law;)I").map (fun d => d.parameters.length) = some 1 := by decide +kernel
theorem pd_36 : (parseMethodDescriptor "(LBehindAnotherHearse$Street;)I").map (fun d => d.parameters.length) = some 1 := by decide +kernel
theorem pd_37 : (parseMethodDescriptor "(LBehindAnotherHearse$Scene;LBehindAnotherHearse$Street;)V").map (fun d => d.parameters.length) = some 2 := by decide +kernel
theorem pd_38 : (parseMethodDescriptor "([I)V").map (fun d => d.parameters.length) = some 1 := by decide +kernel
theorem pd_39 : (parseMethodDescriptor "(LBehindAnotherHearse$Scene;I)I").map (fun d => d.parameters.length) = some 2 := by decide +kernel
theorem pd_40 : (parseMethodDescriptor "(LBehindAnotherHearse$Scene;II)I").map (fun d => d.parameters.length) = some 3 := by decide +kernel
theorem pd_41 : (parseMethodDescriptor "(LBehindAnotherHearse$Scene;III)Z").map (fun d => d.parameters.length) = some 4 := by decide +kernel
theorem pd_42 : (parseMethodDescriptor "(LBehindAnotherHearse$Scene;I)Z").map (fun d => d.parameters.length) = some 2 := by decide +kernel
theorem pd_43 : (parseMethodDescriptor "(LBehindAnotherHearse$Scene;II)Z").map (fun d => d.parameters.length) = some 3 := by decide +kernel
theorem pd_44 : (parseMethodDescriptor "(JI)J").map (fun d => d.parameters.length) = some 2 := by decide +kernel
theorem pd_45 : (parseMethodDescriptor "(JJ)J").map (fun d => d.parameters.length) = some 2 := by decide +kernel
theorem pd_46 : (parseMethodDescriptor "(III)Z").map (fun d => d.parameters.length) = some 3 := by decide +kernel
theorem pd_47 : (parseMethodDescriptor "(I)J").map (fun d => d.parameters.length) = some 1 := by decide +kernel
theorem pd_48 : (parseMethodDescriptor "(JJJ)Z").map (fun d => d.parameters.length) = some 3 := by decide +kernel
theorem pd_49 : (parseMethodDescriptor "(Ljava/lang/String;)I").map (fun d => d.parameters.length) = some 1 := by decide +kernel
theorem pd_50 : (parseMethodDescriptor "(IILjava/util/function/BiFunction;)I").map (fun d => d.parameters.length) = some 3 := by decide +kernel
theorem pd_52 : (parseMethodDescriptor "(IIZ)I").map (fun d => d.parameters.length) = some 3 := by decide +kernel
theorem pd_53 : (parseMethodDescriptor "(II)Ljava/lang/String;").map (fun d => d.parameters.length) = some 2 := by decide +kernel
theorem pd_54 : (parseMethodDescriptor "([BII)Ljava/lang/String;").map (fun d => d.parameters.length) = some 3 := by decide +kernel
theorem pd_55 : (parseMethodDescriptor "([BII)[B").map (fun d => d.parameters.length) = some 3 := by decide +kernel
theorem pd_56 : (parseMethodDescriptor "([BB)V").map (fun d => d.parameters.length) = some 2 := by decide +kernel
theorem pd_59 : (parseMethodDescriptor "([II)V").map (fun d => d.parameters.length) = some 2 := by decide +kernel
theorem pd_60 : (parseMethodDescriptor "([II)Z").map (fun d => d.parameters.length) = some 2 := by decide +kernel
theorem pd_61 : (parseMethodDescriptor "([III)I").map (fun d => d.parameters.length) = some 3 := by decide +kernel
theorem pd_62 : (parseMethodDescriptor "([III)Z").map (fun d => d.parameters.length) = some 3 := by decide +kernel
theorem pd_63 : (parseMethodDescriptor "([IZ)I").map (fun d => d.parameters.length) = some 2 := by decide +kernel
theorem pd_64 : (parseMethodDescriptor "(IIII)V").map (fun d => d.parameters.length) = some 4 := by decide +kernel
theorem lw_h1 (i : Nat) {w : Cond} (h : tables_1_1[i]? = some w) (hg : goodWord w = true) : w ∈ lw_good := List.mem_filter.mpr ⟨List.mem_append_right _ (List.mem_append_left _ (List.mem_of_getElem? h)), hg⟩
theorem lw_h2 (i : Nat) {w : Cond} (h : tables_1_2[i]? = some w) (hg : goodWord w = true) : w ∈ lw_good := List.mem_filter.mpr ⟨List.mem_append_right _ (List.mem_append_right _ (List.mem_append_left _ (List.mem_of_getElem? h))), hg⟩
theorem lw_h3 (i : Nat) {w : Cond} (h : tables_1_3[i]? = some w) (hg : goodWord w = true) : w ∈ lw_good := List.mem_filter.mpr ⟨List.mem_append_right _ (List.mem_append_right _ (List.mem_append_right _ (List.mem_append_left _ (List.mem_of_getElem? h)))), hg⟩
theorem lw_h4 (i : Nat) {w : Cond} (h : tables_1_4[i]? = some w) (hg : goodWord w = true) : w ∈ lw_good := List.mem_filter.mpr ⟨List.mem_append_right _ (List.mem_append_right _ (List.mem_append_right _ (List.mem_append_right _ (List.mem_append_left _ (List.mem_of_getElem? h))))), hg⟩
theorem lw_h5 (i : Nat) {w : Cond} (h : tables_1_5[i]? = some w) (hg : goodWord w = true) : w ∈ lw_good := List.mem_filter.mpr ⟨List.mem_append_right _ (List.mem_append_right _ (List.mem_append_right _ (List.mem_append_right _ (List.mem_append_right _ (List.mem_append_left _ (List.mem_of_getElem? h)))))), hg⟩
theorem lw_h6 (i : Nat) {w : Cond} (h : tables_1_6[i]? = some w) (hg : goodWord w = true) : w ∈ lw_good := List.mem_filter.mpr ⟨List.mem_append_right _ (List.mem_append_right _ (List.mem_append_right _ (List.mem_append_right _ (List.mem_append_right _ (List.mem_append_right _ (List.mem_append_left _ (List.mem_of_getElem? h))))))), hg⟩
theorem lw_h7 (i : Nat) {w : Cond} (h : tables_1_7[i]? = some w) (hg : goodWord w = true) : w ∈ lw_good := List.mem_filter.mpr ⟨List.mem_append_right _ (List.mem_append_right _ (List.mem_append_right _ (List.mem_append_right _ (List.mem_append_right _ (List.mem_append_right _ (List.mem_append_right _ (List.mem_append_left _ (List.mem_of_getElem? h)))))))), hg⟩
theorem lw_h8 (i : Nat) {w : Cond} (h : tables_1_8[i]? = some w) (hg : goodWord w = true) : w ∈ lw_good := List.mem_filter.mpr ⟨List.mem_append_right _ (List.mem_append_right _ (List.mem_append_right _ (List.mem_append_right _ (List.mem_append_right _ (List.mem_append_right _ (List.mem_append_right _ (List.mem_append_right _ (List.mem_append_left _ (List.mem_of_getElem? h))))))))), hg⟩
set_option maxRecDepth 100000 in
theorem in_X11 : Cond.initialized RX11 ∈ lw_good := lw_h1 1 rfl rfl
set_option maxRecDepth 100000 in
theorem in_X9 : Cond.initialized RX9 ∈ lw_good := lw_h1 2 rfl rfl
set_option maxRecDepth 100000 in
theorem in_X8 : Cond.initialized RX8 ∈ lw_good := lw_h1 3 rfl rfl
set_option maxRecDepth 100000 in
theorem in_X6 : Cond.initialized RX6 ∈ lw_good := lw_h1 4 rfl rfl
set_option maxRecDepth 100000 in
theorem in_X10 : Cond.initialized RX10 ∈ lw_good := lw_h1 5 rfl rfl
set_option maxRecDepth 100000 in
theorem in_X1 : Cond.initialized RX1 ∈ lw_good := lw_h1 6 rfl rfl
set_option maxRecDepth 100000 in
theorem in_X4 : Cond.initialized RX4 ∈ lw_good := lw_h1 7 rfl rfl
set_option maxRecDepth 100000 in
theorem in_X7 : Cond.initialized RX7 ∈ lw_good := lw_h1 8 rfl rfl
set_option maxRecDepth 100000 in
theorem in_X3 : Cond.initialized RX3 ∈ lw_good := lw_h1 9 rfl rfl
set_option maxRecDepth 100000 in
theorem in_X0 : Cond.initialized RX0 ∈ lw_good := lw_h1 10 rfl rfl
set_option maxRecDepth 100000 in
theorem in_X5 : Cond.initialized RX5 ∈ lw_good := lw_h1 11 rfl rfl
set_option maxRecDepth 100000 in
theorem in_X2 : Cond.initialized RX2 ∈ lw_good := lw_h1 12 rfl rfl
set_option maxRecDepth 100000 in
theorem in_X12 : Cond.initialized RX12 ∈ lw_good := lw_h1 13 rfl rfl
set_option maxRecDepth 100000 in
theorem in_J9 : Cond.initialized RJ9 ∈ lw_good := lw_h1 14 rfl rfl
set_option maxRecDepth 100000 in
theorem in_J0 : Cond.initialized RJ0 ∈ lw_good := lw_h1 15 rfl rfl
set_option maxRecDepth 100000 in
theorem in_J1 : Cond.initialized RJ1 ∈ lw_good := lw_h1 16 rfl rfl
set_option maxRecDepth 100000 in
theorem in_J3 : Cond.initialized RJ3 ∈ lw_good := lw_h1 17 rfl rfl
set_option maxRecDepth 100000 in
theorem in_J10 : Cond.initialized RJ10 ∈ lw_good := lw_h1 19 rfl rfl
set_option maxRecDepth 100000 in
theorem in_J7 : Cond.initialized RJ7 ∈ lw_good := lw_h1 20 rfl rfl
set_option maxRecDepth 100000 in
theorem in_J6 : Cond.initialized RJ6 ∈ lw_good := lw_h1 26 rfl rfl
set_option maxRecDepth 100000 in
theorem cl_L_8 : Cond.classLink RL 8 RX11 ∈ lw_good := lw_h1 27 rfl rfl
set_option maxRecDepth 100000 in
theorem it_X11 : Cond.instantiable RX11 18 ∈ lw_good := lw_h1 28 rfl rfl
set_option maxRecDepth 100000 in
theorem ml_L_22 : Cond.methodLink RL 22 yX11_init ∈ lw_good := lw_h1 29 rfl rfl
set_option maxRecDepth 100000 in
theorem ml_X11_1 : Cond.methodLink RX11 1 objectInit ∈ lw_good := lw_h1 32 rfl rfl
set_option maxRecDepth 100000 in
theorem im_init : Cond.instanceMethod objectInit ∈ lw_good := lw_h1 33 rfl rfl
set_option maxRecDepth 100000 in
theorem cd_init : Cond.code objectInit ⟨#[0xb1]⟩ 1 none ∈ lw_good := lw_h1 34 rfl rfl
set_option maxRecDepth 100000 in
theorem cl_X11_7 : Cond.classLink RX11 7 RX9 ∈ lw_good := lw_h1 35 rfl rfl
set_option maxRecDepth 100000 in
theorem it_X9 : Cond.instantiable RX9 4 ∈ lw_good := lw_h1 36 rfl rfl
set_option maxRecDepth 100000 in
theorem ml_X11_9 : Cond.methodLinkNest RX11 9 yX9_init "BehindAnotherHearse" ∈ lw_nest := lw_ni 119 rfl rfl
set_option maxRecDepth 100000 in
theorem ml_X9_3 : Cond.methodLink RX9 3 objectInit ∈ lw_good := lw_h1 40 rfl rfl
set_option maxRecDepth 100000 in
theorem fl_X9_9 : Cond.fieldLink RX9 9 "BehindAnotherHearse$Text" "signs" "[I" ∈ lw_good := lw_h1 41 rfl rfl
set_option maxRecDepth 100000 in
theorem fl_X9_15 : Cond.fieldLink RX9 15 "BehindAnotherHearse$Text" "length" "I" ∈ lw_good := lw_h1 42 rfl rfl
set_option maxRecDepth 100000 in
theorem fl_X8_25 : Cond.fieldLinkNest RX8 25 "BehindAnotherHearse$Text" "length" "I" "BehindAnotherHearse" ∈ lw_nest := lw_ni 125 rfl rfl
set_option maxRecDepth 100000 in
theorem fl_X11_119 : Cond.fieldLinkNest RX11 119 "BehindAnotherHearse$Text" "length" "I" "BehindAnotherHearse" ∈ lw_nest := lw_ni 126 rfl rfl
set_option maxRecDepth 100000 in
theorem fl_X9_19 : Cond.fieldLink RX9 19 "BehindAnotherHearse$Text" "at" "I" ∈ lw_good := lw_h1 45 rfl rfl
set_option maxRecDepth 100000 in
theorem fl_X5_54 : Cond.fieldLinkNest RX5 54 "BehindAnotherHearse$Text" "at" "I" "BehindAnotherHearse" ∈ lw_nest := lw_ni 128 rfl rfl
set_option maxRecDepth 100000 in
theorem fl_X11_167 : Cond.fieldLinkNest RX11 167 "BehindAnotherHearse$Text" "at" "I" "BehindAnotherHearse" ∈ lw_nest := lw_ni 129 rfl rfl
set_option maxRecDepth 100000 in
theorem fl_X9_22 : Cond.fieldLink RX9 22 "BehindAnotherHearse$Text" "stop" "I" ∈ lw_good := lw_h1 48 rfl rfl
set_option maxRecDepth 100000 in
theorem ac_int : Cond.arrayClass .int ∈ lw_good := lw_h1 58 rfl rfl
set_option maxRecDepth 100000 in
theorem cl_X11_16 : Cond.classLink RX11 16 RX8 ∈ lw_good := lw_h1 59 rfl rfl
set_option maxRecDepth 100000 in
theorem it_X8 : Cond.instantiable RX8 4 ∈ lw_good := lw_h1 60 rfl rfl
set_option maxRecDepth 100000 in
theorem ml_X11_18 : Cond.methodLinkNest RX11 18 yX8_init "BehindAnotherHearse" ∈ lw_nest := lw_ni 143 rfl rfl
set_option maxRecDepth 100000 in
theorem ml_X8_3 : Cond.methodLink RX8 3 objectInit ∈ lw_good := lw_h1 64 rfl rfl
set_option maxRecDepth 100000 in
theorem fl_X8_9 : Cond.fieldLink RX8 9 "BehindAnotherHearse$Street" "digits" "[I" ∈ lw_good := lw_h1 65 rfl rfl
set_option maxRecDepth 100000 in
theorem fl_X8_15 : Cond.fieldLink RX8 15 "BehindAnotherHearse$Street" "cells" "I" ∈ lw_good := lw_h1 66 rfl rfl
set_option maxRecDepth 100000 in
theorem fl_X3_22 : Cond.fieldLinkNest RX3 22 "BehindAnotherHearse$Street" "cells" "I" "BehindAnotherHearse" ∈ lw_nest := lw_ni 149 rfl rfl
set_option maxRecDepth 100000 in
theorem fl_X10_60 : Cond.fieldLinkNest RX10 60 "BehindAnotherHearse$Street" "cells" "I" "BehindAnotherHearse" ∈ lw_nest := lw_ni 150 rfl rfl
set_option maxRecDepth 100000 in
theorem fl_X11_350 : Cond.fieldLinkNest RX11 350 "BehindAnotherHearse$Street" "cells" "I" "BehindAnotherHearse" ∈ lw_nest := lw_ni 151 rfl rfl
set_option maxRecDepth 100000 in
theorem fl_X8_19 : Cond.fieldLink RX8 19 "BehindAnotherHearse$Street" "corners" "I" ∈ lw_good := lw_h1 70 rfl rfl
set_option maxRecDepth 100000 in
theorem fl_X10_115 : Cond.fieldLinkNest RX10 115 "BehindAnotherHearse$Street" "corners" "I" "BehindAnotherHearse" ∈ lw_nest := lw_ni 153 rfl rfl
set_option maxRecDepth 100000 in
theorem fl_X11_486 : Cond.fieldLinkNest RX11 486 "BehindAnotherHearse$Street" "corners" "I" "BehindAnotherHearse" ∈ lw_nest := lw_ni 154 rfl rfl
set_option maxRecDepth 100000 in
theorem fl_X8_22 : Cond.fieldLink RX8 22 "BehindAnotherHearse$Street" "digitCount" "I" ∈ lw_good := lw_h1 73 rfl rfl
set_option maxRecDepth 100000 in
theorem fl_X2_46 : Cond.fieldLinkNest RX2 46 "BehindAnotherHearse$Street" "digitCount" "I" "BehindAnotherHearse" ∈ lw_nest := lw_ni 156 rfl rfl
set_option maxRecDepth 100000 in
theorem cl_X11_23 : Cond.classLink RX11 23 RX6 ∈ lw_good := lw_h1 84 rfl rfl
set_option maxRecDepth 100000 in
theorem it_X6 : Cond.instantiable RX6 11 ∈ lw_good := lw_h1 85 rfl rfl
set_option maxRecDepth 100000 in
theorem ml_X11_25 : Cond.methodLinkNest RX11 25 yX6_init "BehindAnotherHearse" ∈ lw_nest := lw_ni 168 rfl rfl
set_option maxRecDepth 100000 in
theorem ml_X6_3 : Cond.methodLink RX6 3 objectInit ∈ lw_good := lw_h1 89 rfl rfl
set_option maxRecDepth 100000 in
theorem fl_X6_9 : Cond.fieldLink RX6 9 "BehindAnotherHearse$Scene" "cell" "[I" ∈ lw_good := lw_h1 90 rfl rfl
set_option maxRecDepth 100000 in
theorem fl_X7_49 : Cond.fieldLinkNest RX7 49 "BehindAnotherHearse$Scene" "cell" "[I" "BehindAnotherHearse" ∈ lw_nest := lw_ni 173 rfl rfl
set_option maxRecDepth 100000 in
theorem fl_X10_69 : Cond.fieldLinkNest RX10 69 "BehindAnotherHearse$Scene" "cell" "[I" "BehindAnotherHearse" ∈ lw_nest := lw_ni 174 rfl rfl
set_option maxRecDepth 100000 in
theorem fl_X2_51 : Cond.fieldLinkNest RX2 51 "BehindAnotherHearse$Scene" "cell" "[I" "BehindAnotherHearse" ∈ lw_nest := lw_ni 175 rfl rfl
set_option maxRecDepth 100000 in
theorem fl_X11_230 : Cond.fieldLinkNest RX11 230 "BehindAnotherHearse$Scene" "cell" "[I" "BehindAnotherHearse" ∈ lw_nest := lw_ni 176 rfl rfl
set_option maxRecDepth 100000 in
theorem fl_X6_15 : Cond.fieldLink RX6 15 "BehindAnotherHearse$Scene" "rank" "[I" ∈ lw_good := lw_h1 95 rfl rfl
set_option maxRecDepth 100000 in
theorem fl_X0_45 : Cond.fieldLinkNest RX0 45 "BehindAnotherHearse$Scene" "rank" "[I" "BehindAnotherHearse" ∈ lw_nest := lw_ni 178 rfl rfl
set_option maxRecDepth 100000 in
theorem fl_X11_234 : Cond.fieldLinkNest RX11 234 "BehindAnotherHearse$Scene" "rank" "[I" "BehindAnotherHearse" ∈ lw_nest := lw_ni 179 rfl rfl
set_option maxRecDepth 100000 in
theorem fl_X6_18 : Cond.fieldLink RX6 18 "BehindAnotherHearse$Scene" "place" "[I" ∈ lw_good := lw_h1 98 rfl rfl
set_option maxRecDepth 100000 in
theorem fl_X7_53 : Cond.fieldLinkNest RX7 53 "BehindAnotherHearse$Scene" "place" "[I" "BehindAnotherHearse" ∈ lw_nest := lw_ni 181 rfl rfl
set_option maxRecDepth 100000 in
theorem fl_X10_128 : Cond.fieldLinkNest RX10 128 "BehindAnotherHearse$Scene" "place" "[I" "BehindAnotherHearse" ∈ lw_nest := lw_ni 182 rfl rfl
set_option maxRecDepth 100000 in
theorem fl_X11_270 : Cond.fieldLinkNest RX11 270 "BehindAnotherHearse$Scene" "place" "[I" "BehindAnotherHearse" ∈ lw_nest := lw_ni 183 rfl rfl
set_option maxRecDepth 100000 in
theorem fl_X6_21 : Cond.fieldLink RX6 21 "BehindAnotherHearse$Scene" "own" "[I" ∈ lw_good := lw_h1 102 rfl rfl
set_option maxRecDepth 100000 in
theorem fl_X0_30 : Cond.fieldLinkNest RX0 30 "BehindAnotherHearse$Scene" "own" "[I" "BehindAnotherHearse" ∈ lw_nest := lw_ni 185 rfl rfl
set_option maxRecDepth 100000 in
theorem fl_X11_250 : Cond.fieldLinkNest RX11 250 "BehindAnotherHearse$Scene" "own" "[I" "BehindAnotherHearse" ∈ lw_nest := lw_ni 186 rfl rfl
set_option maxRecDepth 100000 in
theorem fl_X6_24 : Cond.fieldLink RX6 24 "BehindAnotherHearse$Scene" "follows" "[I" ∈ lw_good := lw_h1 105 rfl rfl
set_option maxRecDepth 100000 in
theorem fl_X10_118 : Cond.fieldLinkNest RX10 118 "BehindAnotherHearse$Scene" "follows" "[I" "BehindAnotherHearse" ∈ lw_nest := lw_ni 188 rfl rfl
set_option maxRecDepth 100000 in
theorem fl_X2_74 : Cond.fieldLinkNest RX2 74 "BehindAnotherHearse$Scene" "follows" "[I" "BehindAnotherHearse" ∈ lw_nest := lw_ni 189 rfl rfl
set_option maxRecDepth 100000 in
theorem fl_X11_240 : Cond.fieldLinkNest RX11 240 "BehindAnotherHearse$Scene" "follows" "[I" "BehindAnotherHearse" ∈ lw_nest := lw_ni 190 rfl rfl
set_option maxRecDepth 100000 in
theorem fl_X6_27 : Cond.fieldLink RX6 27 "BehindAnotherHearse$Scene" "grave" "[I" ∈ lw_good := lw_h1 109 rfl rfl
set_option maxRecDepth 100000 in
theorem fl_X0_48 : Cond.fieldLinkNest RX0 48 "BehindAnotherHearse$Scene" "grave" "[I" "BehindAnotherHearse" ∈ lw_nest := lw_ni 192 rfl rfl
set_option maxRecDepth 100000 in
theorem fl_X11_247 : Cond.fieldLinkNest RX11 247 "BehindAnotherHearse$Scene" "grave" "[I" "BehindAnotherHearse" ∈ lw_nest := lw_ni 193 rfl rfl
set_option maxRecDepth 100000 in
theorem fl_X6_30 : Cond.fieldLink RX6 30 "BehindAnotherHearse$Scene" "hearseCount" "I" ∈ lw_good := lw_h1 112 rfl rfl
set_option maxRecDepth 100000 in
theorem fl_X7_20 : Cond.fieldLinkNest RX7 20 "BehindAnotherHearse$Scene" "hearseCount" "I" "BehindAnotherHearse" ∈ lw_nest := lw_ni 195 rfl rfl
set_option maxRecDepth 100000 in
theorem fl_X10_57 : Cond.fieldLinkNest RX10 57 "BehindAnotherHearse$Scene" "hearseCount" "I" "BehindAnotherHearse" ∈ lw_nest := lw_ni 196 rfl rfl
set_option maxRecDepth 100000 in
theorem fl_X11_176 : Cond.fieldLinkNest RX11 176 "BehindAnotherHearse$Scene" "hearseCount" "I" "BehindAnotherHearse" ∈ lw_nest := lw_ni 197 rfl rfl
set_option maxRecDepth 100000 in
theorem fl_X6_34 : Cond.fieldLink RX6 34 "BehindAnotherHearse$Scene" "mournerCount" "I" ∈ lw_good := lw_h1 116 rfl rfl
set_option maxRecDepth 100000 in
theorem fl_X7_25 : Cond.fieldLinkNest RX7 25 "BehindAnotherHearse$Scene" "mournerCount" "I" "BehindAnotherHearse" ∈ lw_nest := lw_ni 199 rfl rfl
set_option maxRecDepth 100000 in
theorem fl_X10_51 : Cond.fieldLinkNest RX10 51 "BehindAnotherHearse$Scene" "mournerCount" "I" "BehindAnotherHearse" ∈ lw_nest := lw_ni 200 rfl rfl
set_option maxRecDepth 100000 in
theorem fl_X11_191 : Cond.fieldLinkNest RX11 191 "BehindAnotherHearse$Scene" "mournerCount" "I" "BehindAnotherHearse" ∈ lw_nest := lw_ni 201 rfl rfl
set_option maxRecDepth 100000 in
theorem fl_X6_37 : Cond.fieldLink RX6 37 "BehindAnotherHearse$Scene" "arrivedCount" "I" ∈ lw_good := lw_h1 120 rfl rfl
set_option maxRecDepth 100000 in
theorem fl_X10_54 : Cond.fieldLinkNest RX10 54 "BehindAnotherHearse$Scene" "arrivedCount" "I" "BehindAnotherHearse" ∈ lw_nest := lw_ni 203 rfl rfl
set_option maxRecDepth 100000 in
theorem fl_X11_302 : Cond.fieldLinkNest RX11 302 "BehindAnotherHearse$Scene" "arrivedCount" "I" "BehindAnotherHearse" ∈ lw_nest := lw_ni 204 rfl rfl
set_option maxRecDepth 100000 in
theorem fl_X6_40 : Cond.fieldLink RX6 40 "BehindAnotherHearse$Scene" "endedCount" "I" ∈ lw_good := lw_h1 123 rfl rfl
set_option maxRecDepth 100000 in
theorem fl_X10_46 : Cond.fieldLinkNest RX10 46 "BehindAnotherHearse$Scene" "endedCount" "I" "BehindAnotherHearse" ∈ lw_nest := lw_ni 206 rfl rfl
set_option maxRecDepth 100000 in
theorem fl_X11_482 : Cond.fieldLinkNest RX11 482 "BehindAnotherHearse$Scene" "endedCount" "I" "BehindAnotherHearse" ∈ lw_nest := lw_ni 207 rfl rfl
set_option maxRecDepth 100000 in
theorem fl_X6_43 : Cond.fieldLink RX6 43 "BehindAnotherHearse$Scene" "step" "I" ∈ lw_good := lw_h1 126 rfl rfl
set_option maxRecDepth 100000 in
theorem fl_X10_84 : Cond.fieldLinkNest RX10 84 "BehindAnotherHearse$Scene" "step" "I" "BehindAnotherHearse" ∈ lw_nest := lw_ni 209 rfl rfl
set_option maxRecDepth 100000 in
theorem fl_X2_67 : Cond.fieldLinkNest RX2 67 "BehindAnotherHearse$Scene" "step" "I" "BehindAnotherHearse" ∈ lw_nest := lw_ni 210 rfl rfl
set_option maxRecDepth 100000 in
theorem fl_X11_333 : Cond.fieldLinkNest RX11 333 "BehindAnotherHearse$Scene" "step" "I" "BehindAnotherHearse" ∈ lw_nest := lw_ni 211 rfl rfl
set_option maxRecDepth 100000 in
theorem cl_X11_39 : Cond.classLink RX11 39 RX10 ∈ lw_good := lw_h1 153 rfl rfl
set_option maxRecDepth 100000 in
theorem it_X10 : Cond.instantiable RX10 6 ∈ lw_good := lw_h1 154 rfl rfl
set_option maxRecDepth 100000 in
theorem ml_X11_41 : Cond.methodLink RX11 41 yX10_init ∈ lw_good := lw_h1 155 rfl rfl
set_option maxRecDepth 100000 in
theorem ml_X10_3 : Cond.methodLink RX10 3 objectInit ∈ lw_good := lw_h1 158 rfl rfl
set_option maxRecDepth 100000 in
theorem fl_X10_29 : Cond.fieldLink RX10 29 "BehindAnotherHearse$Walker" "street" "LBehindAnotherHearse$Street;" ∈ lw_good := lw_h1 159 rfl rfl
set_option maxRecDepth 100000 in
theorem fl_X10_9 : Cond.fieldLink RX10 9 "BehindAnotherHearse$Walker" "waitsOn" "[I" ∈ lw_good := lw_h1 160 rfl rfl
set_option maxRecDepth 100000 in
theorem fl_X11_369 : Cond.fieldLinkNest RX11 369 "BehindAnotherHearse$Walker" "waitsOn" "[I" "BehindAnotherHearse" ∈ lw_nest := lw_ni 243 rfl rfl
set_option maxRecDepth 100000 in
theorem fl_X10_15 : Cond.fieldLink RX10 15 "BehindAnotherHearse$Walker" "changesOf" "[I" ∈ lw_good := lw_h1 162 rfl rfl
set_option maxRecDepth 100000 in
theorem fl_X11_379 : Cond.fieldLinkNest RX11 379 "BehindAnotherHearse$Walker" "changesOf" "[I" "BehindAnotherHearse" ∈ lw_nest := lw_ni 245 rfl rfl
set_option maxRecDepth 100000 in
theorem fl_X10_18 : Cond.fieldLink RX10 18 "BehindAnotherHearse$Walker" "waits" "I" ∈ lw_good := lw_h1 164 rfl rfl
set_option maxRecDepth 100000 in
theorem fl_X11_292 : Cond.fieldLinkNest RX11 292 "BehindAnotherHearse$Walker" "waits" "I" "BehindAnotherHearse" ∈ lw_nest := lw_ni 247 rfl rfl
set_option maxRecDepth 100000 in
theorem fl_X10_22 : Cond.fieldLink RX10 22 "BehindAnotherHearse$Walker" "changes" "I" ∈ lw_good := lw_h1 166 rfl rfl
set_option maxRecDepth 100000 in
theorem fl_X11_295 : Cond.fieldLinkNest RX11 295 "BehindAnotherHearse$Walker" "changes" "I" "BehindAnotherHearse" ∈ lw_nest := lw_ni 249 rfl rfl
set_option maxRecDepth 100000 in
theorem fl_X10_25 : Cond.fieldLink RX10 25 "BehindAnotherHearse$Walker" "isStirred" "Z" ∈ lw_good := lw_h1 168 rfl rfl
set_option maxRecDepth 100000 in
theorem cl_X11_48 : Cond.classLink RX11 48 RX1 ∈ lw_good := lw_h1 182 rfl rfl
set_option maxRecDepth 100000 in
theorem it_X1 : Cond.instantiable RX1 3 ∈ lw_good := lw_h1 183 rfl rfl
set_option maxRecDepth 100000 in
theorem ml_X11_50 : Cond.methodLink RX11 50 yX1_init ∈ lw_good := lw_h1 184 rfl rfl
set_option maxRecDepth 100000 in
theorem ml_X1_3 : Cond.methodLink RX1 3 objectInit ∈ lw_good := lw_h1 187 rfl rfl
set_option maxRecDepth 100000 in
theorem cl_X1_9 : Cond.classLink RX1 9 RX6 ∈ lw_good := lw_h1 188 rfl rfl
set_option maxRecDepth 100000 in
theorem ao_S : Cond.arrayOver (.object "BehindAnotherHearse$Scene") ∈ lw_tbl := List.mem_of_getElem? (i := 271) rfl
set_option maxRecDepth 100000 in
theorem ml_X1_24 : Cond.methodLinkNest RX1 24 yX6_init "BehindAnotherHearse" ∈ lw_nest := lw_ni 272 rfl rfl
set_option maxRecDepth 100000 in
theorem fl_X1_11 : Cond.fieldLink RX1 11 "BehindAnotherHearse$History" "scenes" "[LBehindAnotherHearse$Scene;" ∈ lw_good := lw_h1 191 rfl rfl
set_option maxRecDepth 100000 in
theorem fl_X1_17 : Cond.fieldLink RX1 17 "BehindAnotherHearse$History" "first" "I" ∈ lw_good := lw_h1 192 rfl rfl
set_option maxRecDepth 100000 in
theorem fl_X1_21 : Cond.fieldLink RX1 21 "BehindAnotherHearse$History" "count" "I" ∈ lw_good := lw_h1 193 rfl rfl
set_option maxRecDepth 100000 in
theorem fl_X11_346 : Cond.fieldLinkNest RX11 346 "BehindAnotherHearse$History" "count" "I" "BehindAnotherHearse" ∈ lw_nest := lw_ni 276 rfl rfl
set_option maxRecDepth 100000 in
theorem cl_X11_63 : Cond.classLink RX11 63 RX4 ∈ lw_good := lw_h1 202 rfl rfl
set_option maxRecDepth 100000 in
theorem it_X4 : Cond.instantiable RX4 2 ∈ lw_good := lw_h1 203 rfl rfl
set_option maxRecDepth 100000 in
theorem ml_X11_65 : Cond.methodLinkNest RX11 65 yX4_init "BehindAnotherHearse" ∈ lw_nest := lw_ni 286 rfl rfl
set_option maxRecDepth 100000 in
theorem ml_X4_3 : Cond.methodLink RX4 3 objectInit ∈ lw_good := lw_h1 207 rfl rfl
set_option maxRecDepth 100000 in
theorem fl_X4_9 : Cond.fieldLink RX4 9 "BehindAnotherHearse$Row" "numbers" "[J" ∈ lw_good := lw_h1 208 rfl rfl
set_option maxRecDepth 100000 in
theorem fl_X11_494 : Cond.fieldLinkNest RX11 494 "BehindAnotherHearse$Row" "numbers" "[J" "BehindAnotherHearse" ∈ lw_nest := lw_ni 291 rfl rfl
set_option maxRecDepth 100000 in
theorem fl_X4_15 : Cond.fieldLink RX4 15 "BehindAnotherHearse$Row" "size" "I" ∈ lw_good := lw_h1 210 rfl rfl
set_option maxRecDepth 100000 in
theorem fl_X11_359 : Cond.fieldLinkNest RX11 359 "BehindAnotherHearse$Row" "size" "I" "BehindAnotherHearse" ∈ lw_nest := lw_ni 293 rfl rfl
set_option maxRecDepth 100000 in
theorem ac_boolean : Cond.arrayClass .boolean ∈ lw_good := lw_h1 217 rfl rfl
set_option maxRecDepth 100000 in
theorem ac_long : Cond.arrayClass .long ∈ lw_good := lw_h1 218 rfl rfl
set_option maxRecDepth 100000 in
theorem cl_X11_70 : Cond.classLink RX11 70 RX7 ∈ lw_good := lw_h1 219 rfl rfl
set_option maxRecDepth 100000 in
theorem it_X7 : Cond.instantiable RX7 2 ∈ lw_good := lw_h1 220 rfl rfl
set_option maxRecDepth 100000 in
theorem ml_X11_72 : Cond.methodLinkNest RX11 72 yX7_init "BehindAnotherHearse" ∈ lw_nest := lw_ni 303 rfl rfl
set_option maxRecDepth 100000 in
theorem ml_X7_3 : Cond.methodLink RX7 3 objectInit ∈ lw_good := lw_h1 224 rfl rfl
set_option maxRecDepth 100000 in
theorem cl_X7_9 : Cond.classLink RX7 9 "[[I" ∈ lw_good := lw_h1 225 rfl rfl
set_option maxRecDepth 100000 in
theorem ao_I : Cond.arrayOver (.array .int) ∈ lw_tbl := List.mem_of_getElem? (i := 308) rfl
set_option maxRecDepth 100000 in
theorem fl_X7_11 : Cond.fieldLink RX7 11 "BehindAnotherHearse$Sharing" "most" "[[I" ∈ lw_good := lw_h1 227 rfl rfl
set_option maxRecDepth 100000 in
theorem fl_X7_16 : Cond.fieldLink RX7 16 "BehindAnotherHearse$Sharing" "reach" "I" ∈ lw_good := lw_h1 228 rfl rfl
set_option maxRecDepth 100000 in
theorem cl_X11_77 : Cond.classLink RX11 77 RX3 ∈ lw_good := lw_h1 234 rfl rfl
set_option maxRecDepth 100000 in
theorem it_X3 : Cond.instantiable RX3 3 ∈ lw_good := lw_h1 235 rfl rfl
set_option maxRecDepth 100000 in
theorem ml_X11_79 : Cond.methodLinkNest RX11 79 yX3_init "BehindAnotherHearse" ∈ lw_nest := lw_ni 318 rfl rfl
set_option maxRecDepth 100000 in
theorem ml_X3_3 : Cond.methodLink RX3 3 objectInit ∈ lw_good := lw_h1 239 rfl rfl
set_option maxRecDepth 100000 in
theorem fl_X3_9 : Cond.fieldLink RX3 9 "BehindAnotherHearse$Orders" "cells" "[I" ∈ lw_good := lw_h2 0 rfl rfl
set_option maxRecDepth 100000 in
theorem fl_X11_404 : Cond.fieldLinkNest RX11 404 "BehindAnotherHearse$Orders" "cells" "[I" "BehindAnotherHearse" ∈ lw_nest := lw_ni 323 rfl rfl
set_option maxRecDepth 100000 in
theorem fl_X3_15 : Cond.fieldLink RX3 15 "BehindAnotherHearse$Orders" "best" "[I" ∈ lw_good := lw_h2 2 rfl rfl
set_option maxRecDepth 100000 in
theorem fl_X11_417 : Cond.fieldLinkNest RX11 417 "BehindAnotherHearse$Orders" "best" "[I" "BehindAnotherHearse" ∈ lw_nest := lw_ni 325 rfl rfl
set_option maxRecDepth 100000 in
theorem fl_X3_18 : Cond.fieldLink RX3 18 "BehindAnotherHearse$Orders" "size" "I" ∈ lw_good := lw_h2 4 rfl rfl
set_option maxRecDepth 100000 in
theorem fl_X11_416 : Cond.fieldLinkNest RX11 416 "BehindAnotherHearse$Orders" "size" "I" "BehindAnotherHearse" ∈ lw_nest := lw_ni 327 rfl rfl
set_option maxRecDepth 100000 in
theorem cl_X11_84 : Cond.classLink RX11 84 RX0 ∈ lw_good := lw_h2 13 rfl rfl
set_option maxRecDepth 100000 in
theorem it_X0 : Cond.instantiable RX0 3 ∈ lw_good := lw_h2 14 rfl rfl
set_option maxRecDepth 100000 in
theorem ml_X11_86 : Cond.methodLinkNest RX11 86 yX0_init "BehindAnotherHearse" ∈ lw_nest := lw_ni 337 rfl rfl
set_option maxRecDepth 100000 in
theorem ml_X0_3 : Cond.methodLink RX0 3 objectInit ∈ lw_good := lw_h2 18 rfl rfl
set_option maxRecDepth 100000 in
theorem fl_X0_9 : Cond.fieldLink RX0 9 "BehindAnotherHearse$Hearsay" "kinds" "[I" ∈ lw_good := lw_h2 19 rfl rfl
set_option maxRecDepth 100000 in
theorem fl_X0_15 : Cond.fieldLink RX0 15 "BehindAnotherHearse$Hearsay" "values" "[I" ∈ lw_good := lw_h2 20 rfl rfl
set_option maxRecDepth 100000 in
theorem fl_X0_18 : Cond.fieldLink RX0 18 "BehindAnotherHearse$Hearsay" "count" "I" ∈ lw_good := lw_h2 21 rfl rfl
set_option maxRecDepth 100000 in
theorem fl_X11_456 : Cond.fieldLinkNest RX11 456 "BehindAnotherHearse$Hearsay" "count" "I" "BehindAnotherHearse" ∈ lw_nest := lw_ni 344 rfl rfl
set_option maxRecDepth 100000 in
theorem cl_X11_91 : Cond.classLink RX11 91 RX5 ∈ lw_good := lw_h2 30 rfl rfl
set_option maxRecDepth 100000 in
theorem it_X5 : Cond.instantiable RX5 4 ∈ lw_good := lw_h2 31 rfl rfl
set_option maxRecDepth 100000 in
theorem ml_X11_93 : Cond.methodLinkNest RX11 93 yX5_init "BehindAnotherHearse" ∈ lw_nest := lw_ni 354 rfl rfl
set_option maxRecDepth 100000 in
theorem ml_X5_3 : Cond.methodLink RX5 3 objectInit ∈ lw_good := lw_h2 35 rfl rfl
set_option maxRecDepth 100000 in
theorem fl_X5_9 : Cond.fieldLink RX5 9 "BehindAnotherHearse$RuleReader" "waiting" "[I" ∈ lw_good := lw_h2 36 rfl rfl
set_option maxRecDepth 100000 in
theorem fl_X5_15 : Cond.fieldLink RX5 15 "BehindAnotherHearse$RuleReader" "waitingCount" "I" ∈ lw_good := lw_h2 37 rfl rfl
set_option maxRecDepth 100000 in
theorem fl_X5_19 : Cond.fieldLink RX5 19 "BehindAnotherHearse$RuleReader" "depth" "I" ∈ lw_good := lw_h2 38 rfl rfl
set_option maxRecDepth 100000 in
theorem fl_X5_22 : Cond.fieldLink RX5 22 "BehindAnotherHearse$RuleReader" "wantsThing" "Z" ∈ lw_good := lw_h2 39 rfl rfl
set_option maxRecDepth 100000 in
theorem cl_X11_102 : Cond.classLink RX11 102 RX2 ∈ lw_good := lw_h2 49 rfl rfl
set_option maxRecDepth 100000 in
theorem it_X2 : Cond.instantiable RX2 6 ∈ lw_good := lw_h2 50 rfl rfl
set_option maxRecDepth 100000 in
theorem ml_X11_104 : Cond.methodLinkNest RX11 104 yX2_init "BehindAnotherHearse" ∈ lw_nest := lw_ni 373 rfl rfl
set_option maxRecDepth 100000 in
theorem ml_X2_3 : Cond.methodLink RX2 3 objectInit ∈ lw_good := lw_h2 54 rfl rfl
set_option maxRecDepth 100000 in
theorem fl_X2_9 : Cond.fieldLink RX2 9 "BehindAnotherHearse$Law" "kinds" "[I" ∈ lw_good := lw_h2 55 rfl rfl
set_option maxRecDepth 100000 in
theorem fl_X2_15 : Cond.fieldLink RX2 15 "BehindAnotherHearse$Law" "values" "[I" ∈ lw_good := lw_h2 56 rfl rfl
set_option maxRecDepth 100000 in
theorem fl_X2_18 : Cond.fieldLink RX2 18 "BehindAnotherHearse$Law" "stack" "[I" ∈ lw_good := lw_h2 57 rfl rfl
set_option maxRecDepth 100000 in
theorem fl_X2_21 : Cond.fieldLink RX2 21 "BehindAnotherHearse$Law" "given" "[I" ∈ lw_good := lw_h2 58 rfl rfl
set_option maxRecDepth 100000 in
theorem fl_X2_24 : Cond.fieldLink RX2 24 "BehindAnotherHearse$Law" "size" "I" ∈ lw_good := lw_h2 59 rfl rfl
set_option maxRecDepth 100000 in
theorem fl_X2_28 : Cond.fieldLink RX2 28 "BehindAnotherHearse$Law" "lettersUsed" "I" ∈ lw_good := lw_h2 60 rfl rfl
set_option maxRecDepth 100000 in
theorem ml_X11_112 : Cond.methodLink RX11 112 yX2_becomePlain ∈ lw_good := lw_h2 74 rfl rfl
set_option maxRecDepth 100000 in
theorem ml_X2_31 : Cond.methodLink RX2 31 yX2_clear ∈ lw_good := lw_h2 78 rfl rfl
set_option maxRecDepth 100000 in
theorem ml_X2_34 : Cond.methodLink RX2 34 yX2_add ∈ lw_good := lw_h2 82 rfl rfl
set_option maxRecDepth 100000 in
theorem ml_X2_38 : Cond.methodLink RX2 38 yX2_addLetter ∈ lw_good := lw_h2 86 rfl rfl
set_option maxRecDepth 100000 in
theorem fl_X11_10 : Cond.fieldLink RX11 10 "BehindAnotherHearse" "text" "LBehindAnotherHearse$Text;" ∈ lw_good := lw_h2 90 rfl rfl
set_option maxRecDepth 100000 in
theorem fl_X11_19 : Cond.fieldLink RX11 19 "BehindAnotherHearse" "street" "LBehindAnotherHearse$Street;" ∈ lw_good := lw_h2 91 rfl rfl
set_option maxRecDepth 100000 in
theorem fl_X11_26 : Cond.fieldLink RX11 26 "BehindAnotherHearse" "now" "LBehindAnotherHearse$Scene;" ∈ lw_good := lw_h2 92 rfl rfl
set_option maxRecDepth 100000 in
theorem fl_X11_30 : Cond.fieldLink RX11 30 "BehindAnotherHearse" "trial" "LBehindAnotherHearse$Scene;" ∈ lw_good := lw_h2 93 rfl rfl
set_option maxRecDepth 100000 in
theorem fl_X11_33 : Cond.fieldLink RX11 33 "BehindAnotherHearse" "base" "LBehindAnotherHearse$Scene;" ∈ lw_good := lw_h2 94 rfl rfl
set_option maxRecDepth 100000 in
theorem fl_X11_36 : Cond.fieldLink RX11 36 "BehindAnotherHearse" "before" "LBehindAnotherHearse$Scene;" ∈ lw_good := lw_h2 95 rfl rfl
set_option maxRecDepth 100000 in
theorem fl_X11_44 : Cond.fieldLink RX11 44 "BehindAnotherHearse" "walker" "LBehindAnotherHearse$Walker;" ∈ lw_good := lw_h2 96 rfl rfl
set_option maxRecDepth 100000 in
theorem fl_X11_51 : Cond.fieldLink RX11 51 "BehindAnotherHearse" "history" "LBehindAnotherHearse$History;" ∈ lw_good := lw_h2 97 rfl rfl
set_option maxRecDepth 100000 in
theorem fl_X11_55 : Cond.fieldLink RX11 55 "BehindAnotherHearse" "kept" "[LBehindAnotherHearse$Scene;" ∈ lw_good := lw_h2 98 rfl rfl
set_option maxRecDepth 100000 in
theorem fl_X11_59 : Cond.fieldLink RX11 59 "BehindAnotherHearse" "isKept" "[Z" ∈ lw_good := lw_h2 99 rfl rfl
set_option maxRecDepth 100000 in
theorem fl_X11_66 : Cond.fieldLink RX11 66 "BehindAnotherHearse" "told" "LBehindAnotherHearse$Row;" ∈ lw_good := lw_h2 100 rfl rfl
set_option maxRecDepth 100000 in
theorem fl_X11_73 : Cond.fieldLink RX11 73 "BehindAnotherHearse" "sharing" "LBehindAnotherHearse$Sharing;" ∈ lw_good := lw_h2 101 rfl rfl
set_option maxRecDepth 100000 in
theorem fl_X11_80 : Cond.fieldLink RX11 80 "BehindAnotherHearse" "orders" "LBehindAnotherHearse$Orders;" ∈ lw_good := lw_h2 102 rfl rfl
set_option maxRecDepth 100000 in
theorem fl_X11_87 : Cond.fieldLink RX11 87 "BehindAnotherHearse" "hearsay" "LBehindAnotherHearse$Hearsay;" ∈ lw_good := lw_h2 103 rfl rfl
set_option maxRecDepth 100000 in
theorem fl_X11_94 : Cond.fieldLink RX11 94 "BehindAnotherHearse" "ruleReader" "LBehindAnotherHearse$RuleReader;" ∈ lw_good := lw_h2 104 rfl rfl
set_option maxRecDepth 100000 in
theorem fl_X11_98 : Cond.fieldLink RX11 98 "BehindAnotherHearse" "drawn" "I" ∈ lw_good := lw_h2 105 rfl rfl
set_option maxRecDepth 100000 in
theorem fl_X11_105 : Cond.fieldLink RX11 105 "BehindAnotherHearse" "rules" "LBehindAnotherHearse$Law;" ∈ lw_good := lw_h2 106 rfl rfl
set_option maxRecDepth 100000 in
theorem fl_X11_109 : Cond.fieldLink RX11 109 "BehindAnotherHearse" "otherRules" "LBehindAnotherHearse$Law;" ∈ lw_good := lw_h2 107 rfl rfl
set_option maxRecDepth 100000 in
theorem ml_L_26 : Cond.methodLink RL 26 yX11_sign ∈ lw_good := lw_h2 145 rfl rfl
set_option maxRecDepth 100000 in
theorem ml_X11_115 : Cond.methodLink RX11 115 yX9_addFour ∈ lw_good := lw_h2 149 rfl rfl
set_option maxRecDepth 100000 in
theorem ml_L_31 : Cond.methodLink RL 31 yX11_end ∈ lw_good := lw_h2 153 rfl rfl
set_option maxRecDepth 100000 in
theorem ml_X11_122 : Cond.methodLink RX11 122 yX9_cutTo ∈ lw_good := lw_h2 157 rfl rfl
set_option maxRecDepth 100000 in
theorem ml_L_36 : Cond.methodLink RL 36 yX11_avenue ∈ lw_good := lw_h2 161 rfl rfl
set_option maxRecDepth 100000 in
theorem ml_X11_125 : Cond.methodLink RX11 125 yX11_avenueFault ∈ lw_good := lw_h2 165 rfl rfl
set_option maxRecDepth 100000 in
theorem ml_X11_141 : Cond.methodLink RX11 141 yX9_signAt ∈ lw_good := lw_h2 169 rfl rfl
set_option maxRecDepth 100000 in
theorem ml_X11_129 : Cond.methodLink RX11 129 yX8_become ∈ lw_good := lw_h2 173 rfl rfl
set_option maxRecDepth 100000 in
theorem ml_X8_30 : Cond.methodLink RX8 30 yX9_signAt ∈ lw_good := lw_h2 177 rfl rfl
set_option maxRecDepth 100000 in
theorem ml_X11_133 : Cond.methodLink RX11 133 yX6_clear ∈ lw_good := lw_h2 178 rfl rfl
set_option maxRecDepth 100000 in
theorem ml_X11_136 : Cond.methodLink RX11 136 yX1_clear ∈ lw_good := lw_h2 182 rfl rfl
set_option maxRecDepth 100000 in
theorem ml_X11_137 : Cond.methodLink RX11 137 yX11_forgetKept ∈ lw_good := lw_h2 186 rfl rfl
set_option maxRecDepth 100000 in
theorem ml_X11_140 : Cond.methodLink RX11 140 yX9_clear ∈ lw_good := lw_h2 190 rfl rfl
set_option maxRecDepth 100000 in
theorem ml_L_41 : Cond.methodLink RL 41 yX11_hearses ∈ lw_good := lw_h2 194 rfl rfl
set_option maxRecDepth 100000 in
theorem ml_X11_145 : Cond.methodLink RX11 145 yX9_isEmpty ∈ lw_good := lw_h2 198 rfl rfl
set_option maxRecDepth 100000 in
theorem ml_X11_149 : Cond.methodLink RX11 149 yX11_readLines ∈ lw_good := lw_h2 202 rfl rfl
set_option maxRecDepth 100000 in
theorem ml_X11_153 : Cond.methodLink RX11 153 yX6_copyFrom ∈ lw_good := lw_h2 206 rfl rfl
set_option maxRecDepth 100000 in
theorem ml_X6_46 : Cond.methodLink RX6 46 arraycopyName ∈ lw_good := lw_h2 210 rfl rfl
set_option maxRecDepth 100000 in
theorem sm_arraycopy : Cond.static arraycopyName ∈ lw_good := lw_h2 211 rfl rfl
set_option maxRecDepth 100000 in
theorem nm_arraycopy : Cond.native arraycopyName ∈ lw_good := lw_h2 212 rfl rfl
set_option maxRecDepth 100000 in
theorem ml_X11_157 : Cond.methodLink RX11 157 yX9_open ∈ lw_good := lw_h2 213 rfl rfl
set_option maxRecDepth 100000 in
theorem ml_X9_25 : Cond.methodLink RX9 25 yJ9_min_7cf53 ∈ lw_good := lw_h2 217 rfl rfl
set_option maxRecDepth 100000 in
theorem sm_min : Cond.static yJ9_min_7cf53 ∈ lw_good := lw_h2 218 rfl rfl
set_option maxRecDepth 100000 in
theorem cd_min : Cond.code Lib.Math.min.name Lib.Math.min.code 2 (some .int) ∈ lw_good := lw_h2 219 rfl rfl
set_option maxRecDepth 100000 in
theorem ml_X11_161 : Cond.methodLink RX11 161 yX11_readHearse ∈ lw_good := lw_h2 220 rfl rfl
set_option maxRecDepth 100000 in
theorem ml_X11_179 : Cond.methodLink RX11 179 yX11_readCell ∈ lw_good := lw_h2 224 rfl rfl
set_option maxRecDepth 100000 in
theorem ml_X11_204 : Cond.methodLink RX11 204 yX9_number ∈ lw_good := lw_h2 228 rfl rfl
set_option maxRecDepth 100000 in
theorem ml_X9_38 : Cond.methodLink RX9 38 yX9_digit ∈ lw_good := lw_h2 232 rfl rfl
set_option maxRecDepth 100000 in
theorem ml_X9_31 : Cond.methodLink RX9 31 yX9_look ∈ lw_good := lw_h2 236 rfl rfl
set_option maxRecDepth 100000 in
theorem ml_X9_35 : Cond.methodLink RX9 35 yX9_pass ∈ lw_good := lw_h3 0 rfl rfl
set_option maxRecDepth 100000 in
theorem ml_X11_207 : Cond.methodLink RX11 207 yX8_gate ∈ lw_good := lw_h3 4 rfl rfl
set_option maxRecDepth 100000 in
theorem ml_X11_185 : Cond.methodLink RX11 185 yX9_back ∈ lw_good := lw_h3 8 rfl rfl
set_option maxRecDepth 100000 in
theorem ml_X11_182 : Cond.methodLink RX11 182 yX6_hearseOn ∈ lw_good := lw_h3 12 rfl rfl
set_option maxRecDepth 100000 in
theorem ml_X11_188 : Cond.methodLink RX11 188 yX6_addHearse ∈ lw_good := lw_h3 16 rfl rfl
set_option maxRecDepth 100000 in
theorem ml_X11_164 : Cond.methodLink RX11 164 yX11_readMourner ∈ lw_good := lw_h3 20 rfl rfl
set_option maxRecDepth 100000 in
theorem ml_X11_194 : Cond.methodLink RX11 194 yX9_look ∈ lw_good := lw_h3 24 rfl rfl
set_option maxRecDepth 100000 in
theorem ml_X11_197 : Cond.methodLink RX11 197 yX9_pass ∈ lw_good := lw_h3 25 rfl rfl
set_option maxRecDepth 100000 in
theorem ml_X11_200 : Cond.methodLink RX11 200 yX6_addMourner ∈ lw_good := lw_h3 26 rfl rfl
set_option maxRecDepth 100000 in
theorem ml_X11_170 : Cond.methodLink RX11 170 yX9_skip ∈ lw_good := lw_h3 30 rfl rfl
set_option maxRecDepth 100000 in
theorem ml_X11_173 : Cond.methodLink RX11 173 yX9_isWhole ∈ lw_good := lw_h3 34 rfl rfl
set_option maxRecDepth 100000 in
theorem ml_L_45 : Cond.methodLink RL 45 yX11_mourners ∈ lw_good := lw_h3 38 rfl rfl
set_option maxRecDepth 100000 in
theorem ml_L_49 : Cond.methodLink RL 49 yX11_weather ∈ lw_good := lw_h3 42 rfl rfl
set_option maxRecDepth 100000 in
theorem ml_X11_210 : Cond.methodLink RX11 210 yX11_weatherFault ∈ lw_good := lw_h3 46 rfl rfl
set_option maxRecDepth 100000 in
theorem ml_X11_213 : Cond.methodLink RX11 213 yX8_takeWeather ∈ lw_good := lw_h3 50 rfl rfl
set_option maxRecDepth 100000 in
theorem ml_L_53 : Cond.methodLink RL 53 yX11_rule ∈ lw_good := lw_h3 54 rfl rfl
set_option maxRecDepth 100000 in
theorem ml_X11_216 : Cond.methodLink RX11 216 yX5_read ∈ lw_good := lw_h3 58 rfl rfl
set_option maxRecDepth 100000 in
theorem ml_X5_26 : Cond.methodLink RX5 26 yX9_isEmpty ∈ lw_good := lw_h3 62 rfl rfl
set_option maxRecDepth 100000 in
theorem ml_X5_32 : Cond.methodLink RX5 32 yX2_becomePlain ∈ lw_good := lw_h3 63 rfl rfl
set_option maxRecDepth 100000 in
theorem ml_X5_37 : Cond.methodLink RX5 37 yX2_clear ∈ lw_good := lw_h3 64 rfl rfl
set_option maxRecDepth 100000 in
theorem ml_X5_40 : Cond.methodLink RX5 40 yX9_open ∈ lw_good := lw_h3 65 rfl rfl
set_option maxRecDepth 100000 in
theorem ml_X5_44 : Cond.methodLink RX5 44 yX9_isRead ∈ lw_good := lw_h3 66 rfl rfl
set_option maxRecDepth 100000 in
theorem ml_X5_47 : Cond.methodLink RX5 47 yX5_takeThing ∈ lw_good := lw_h3 70 rfl rfl
set_option maxRecDepth 100000 in
theorem ml_X5_64 : Cond.methodLink RX5 64 yX9_number ∈ lw_good := lw_h3 74 rfl rfl
set_option maxRecDepth 100000 in
theorem ml_X5_68 : Cond.methodLink RX5 68 yX2_add ∈ lw_good := lw_h3 75 rfl rfl
set_option maxRecDepth 100000 in
theorem ml_X5_72 : Cond.methodLink RX5 72 yX9_look ∈ lw_good := lw_h3 76 rfl rfl
set_option maxRecDepth 100000 in
theorem ml_X5_76 : Cond.methodLink RX5 76 yX5_hold ∈ lw_good := lw_h3 77 rfl rfl
set_option maxRecDepth 100000 in
theorem ml_X5_81 : Cond.methodLink RX5 81 yJ0_indexOf_0f7a4 ∈ lw_good := lw_h3 82 rfl rfl
set_option maxRecDepth 100000 in
theorem ml_J0_633 : Cond.methodLink RJ0 633 yJ0_indexOf_7cf53 ∈ lw_good := lw_h3 86 rfl rfl
set_option maxRecDepth 100000 in
theorem ml_J0_492 : Cond.methodLink RJ0 492 yJ0_isLatin1_aae02 ∈ lw_good := lw_h3 90 rfl rfl
set_option maxRecDepth 100000 in
theorem ml_J0_505 : Cond.methodLink RJ0 505 yJ0_length_8abf5 ∈ lw_good := lw_h3 96 rfl rfl
set_option maxRecDepth 100000 in
theorem ml_J0_335 : Cond.methodLink RJ0 335 yJ0_coder_7d493 ∈ lw_good := lw_h3 100 rfl rfl
set_option maxRecDepth 100000 in
theorem ml_J0_637 : Cond.methodLink RJ0 637 yJ1_indexOf_4cfef ∈ lw_good := lw_h3 104 rfl rfl
set_option maxRecDepth 100000 in
theorem ml_J1_88 : Cond.methodLink RJ1 88 yJ1_canEncode_9a6ad ∈ lw_good := lw_h3 107 rfl rfl
set_option maxRecDepth 100000 in
theorem ml_J1_92 : Cond.methodLink RJ1 92 yJ9_max_7cf53 ∈ lw_good := lw_h3 110 rfl rfl
set_option maxRecDepth 100000 in
theorem sm_max : Cond.static yJ9_max_7cf53 ∈ lw_good := lw_h3 111 rfl rfl
set_option maxRecDepth 100000 in
theorem cd_max : Cond.code Lib.Math.max.name Lib.Math.max.code 2 (some .int) ∈ lw_good := lw_h3 112 rfl rfl
set_option maxRecDepth 100000 in
theorem ml_J1_38 : Cond.methodLink RJ1 38 yJ9_min_7cf53 ∈ lw_good := lw_h3 113 rfl rfl
set_option maxRecDepth 100000 in
theorem ml_J1_95 : Cond.methodLink RJ1 95 yJ1_indexOfChar_4cfef ∈ lw_good := lw_h3 114 rfl rfl
set_option maxRecDepth 100000 in
theorem ml_J0_1062 : Cond.methodLink RJ0 1062 yJ3_checkFromToIndex_8c36e ∈ lw_good := lw_h3 137 rfl rfl
set_option maxRecDepth 100000 in
theorem ml_X5_86 : Cond.methodLink RX5 86 yX2_addLetter ∈ lw_good := lw_h3 166 rfl rfl
set_option maxRecDepth 100000 in
theorem ml_X5_89 : Cond.methodLink RX5 89 yX9_pass ∈ lw_good := lw_h3 167 rfl rfl
set_option maxRecDepth 100000 in
theorem ml_X5_51 : Cond.methodLink RX5 51 yX5_takeSign ∈ lw_good := lw_h3 168 rfl rfl
set_option maxRecDepth 100000 in
theorem ml_X5_92 : Cond.methodLink RX5 92 yX5_bindingOf ∈ lw_good := lw_h3 172 rfl rfl
set_option maxRecDepth 100000 in
theorem ml_X5_60 : Cond.methodLink RX5 60 yX5_release ∈ lw_good := lw_h3 175 rfl rfl
set_option maxRecDepth 100000 in
theorem ml_X5_95 : Cond.methodLink RX5 95 yX5_latestBinding ∈ lw_good := lw_h3 179 rfl rfl
set_option maxRecDepth 100000 in
theorem ml_X5_57 : Cond.methodLink RX5 57 yX9_isWhole ∈ lw_good := lw_h3 183 rfl rfl
set_option maxRecDepth 100000 in
theorem ac_byte : Cond.arrayClass .byte ∈ lw_good := lw_h3 184 rfl rfl
set_option maxRecDepth 100000 in
theorem ml_L_66 : Cond.methodLink RL 66 yX11_sheet ∈ lw_good := lw_h3 185 rfl rfl
set_option maxRecDepth 100000 in
theorem ml_X11_278 : Cond.methodLink RX11 278 yX6_hasEnded ∈ lw_good := lw_h3 189 rfl rfl
set_option maxRecDepth 100000 in
theorem ml_X11_281 : Cond.methodLink RX11 281 yX11_cellOfEntry ∈ lw_good := lw_h3 193 rfl rfl
set_option maxRecDepth 100000 in
theorem ml_X11_285 : Cond.methodLink RX11 285 yX8_putOnStreet ∈ lw_good := lw_h3 197 rfl rfl
set_option maxRecDepth 100000 in
theorem ml_X8_34 : Cond.methodLink RX8 34 yX8_gate ∈ lw_good := lw_h3 201 rfl rfl
set_option maxRecDepth 100000 in
theorem ml_X8_38 : Cond.methodLink RX8 38 yJ9_min_7cf53 ∈ lw_good := lw_h3 202 rfl rfl
set_option maxRecDepth 100000 in
theorem ml_X8_44 : Cond.methodLink RX8 44 yJ9_max_7cf53 ∈ lw_good := lw_h3 203 rfl rfl
set_option maxRecDepth 100000 in
theorem ml_L_71 : Cond.methodLink RL 71 yX11_steps ∈ lw_good := lw_h3 204 rfl rfl
set_option maxRecDepth 100000 in
theorem ml_X11_288 : Cond.methodLink RX11 288 yX10_walk ∈ lw_good := lw_h3 208 rfl rfl
set_option maxRecDepth 100000 in
theorem ml_X10_33 : Cond.methodLink RX10 33 yX10_forgetTallies ∈ lw_good := lw_h3 212 rfl rfl
set_option maxRecDepth 100000 in
theorem ml_X10_36 : Cond.methodLink RX10 36 yX10_advance ∈ lw_good := lw_h3 216 rfl rfl
set_option maxRecDepth 100000 in
theorem ml_X10_65 : Cond.methodLink RX10 65 yX6_foremostBelow ∈ lw_good := lw_h3 220 rfl rfl
set_option maxRecDepth 100000 in
theorem ml_X10_72 : Cond.methodLink RX10 72 yX10_moveHearse ∈ lw_good := lw_h3 224 rfl rfl
set_option maxRecDepth 100000 in
theorem ml_X10_87 : Cond.methodLink RX10 87 yX2_observe ∈ lw_good := lw_h3 228 rfl rfl
set_option maxRecDepth 100000 in
theorem ml_X2_42 : Cond.methodLink RX2 42 yX2_uses ∈ lw_good := lw_h3 232 rfl rfl
set_option maxRecDepth 100000 in
theorem ml_X2_56 : Cond.methodLink RX2 56 yX8_gate ∈ lw_good := lw_h3 236 rfl rfl
set_option maxRecDepth 100000 in
theorem ml_X2_60 : Cond.methodLink RX2 60 yX6_freeAhead ∈ lw_good := lw_h3 237 rfl rfl
set_option maxRecDepth 100000 in
theorem ml_X2_64 : Cond.methodLink RX2 64 yX8_isCorner ∈ lw_good := lw_h4 1 rfl rfl
set_option maxRecDepth 100000 in
theorem ml_X2_70 : Cond.methodLink RX2 70 yX8_weatherAt ∈ lw_good := lw_h4 5 rfl rfl
set_option maxRecDepth 100000 in
theorem ml_X2_77 : Cond.methodLink RX2 77 yX6_bitsOf ∈ lw_good := lw_h4 9 rfl rfl
set_option maxRecDepth 100000 in
theorem ml_X2_81 : Cond.methodLink RX2 81 yJ6_bitCount_0f7a4 ∈ lw_good := lw_h4 13 rfl rfl
set_option maxRecDepth 100000 in
theorem ct_J6_265 : Cond.constant RJ6 265 (1431655765) ∈ lw_good := lw_h4 16 rfl rfl
set_option maxRecDepth 100000 in
theorem ct_J6_266 : Cond.constant RJ6 266 (858993459) ∈ lw_good := lw_h4 17 rfl rfl
set_option maxRecDepth 100000 in
theorem ct_J6_267 : Cond.constant RJ6 267 (252645135) ∈ lw_good := lw_h4 18 rfl rfl
set_option maxRecDepth 100000 in
theorem ml_X10_91 : Cond.methodLink RX10 91 yX6_takenCells ∈ lw_good := lw_h4 19 rfl rfl
set_option maxRecDepth 100000 in
theorem ml_X10_95 : Cond.methodLink RX10 95 yX2_pace ∈ lw_good := lw_h4 23 rfl rfl
set_option maxRecDepth 100000 in
theorem ml_X2_86 : Cond.methodLink RX2 86 yX2_join ∈ lw_good := lw_h4 27 rfl rfl
set_option maxRecDepth 100000 in
theorem ml_X2_90 : Cond.methodLink RX2 90 yJ9_min_7cf53 ∈ lw_good := lw_h4 30 rfl rfl
set_option maxRecDepth 100000 in
theorem ml_X2_95 : Cond.methodLink RX2 95 yJ9_max_7cf53 ∈ lw_good := lw_h4 31 rfl rfl
set_option maxRecDepth 100000 in
theorem ml_X10_98 : Cond.methodLink RX10 98 yX10_goal ∈ lw_good := lw_h4 32 rfl rfl
set_option maxRecDepth 100000 in
theorem ml_X10_102 : Cond.methodLink RX10 102 yX8_gate ∈ lw_good := lw_h4 36 rfl rfl
set_option maxRecDepth 100000 in
theorem ml_X10_109 : Cond.methodLink RX10 109 yJ9_min_7cf53 ∈ lw_good := lw_h4 37 rfl rfl
set_option maxRecDepth 100000 in
theorem ml_X10_105 : Cond.methodLink RX10 105 yX6_arrive ∈ lw_good := lw_h4 38 rfl rfl
set_option maxRecDepth 100000 in
theorem ml_X10_76 : Cond.methodLink RX10 76 yX6_hasEnded ∈ lw_good := lw_h4 42 rfl rfl
set_option maxRecDepth 100000 in
theorem ml_X10_80 : Cond.methodLink RX10 80 yX10_moveMourner ∈ lw_good := lw_h4 43 rfl rfl
set_option maxRecDepth 100000 in
theorem ml_X10_121 : Cond.methodLink RX10 121 yX6_hasArrived ∈ lw_good := lw_h4 47 rfl rfl
set_option maxRecDepth 100000 in
theorem ml_X10_124 : Cond.methodLink RX10 124 yX6_endAt ∈ lw_good := lw_h4 51 rfl rfl
set_option maxRecDepth 100000 in
theorem ml_X10_131 : Cond.methodLink RX10 131 yX6_nearestTo ∈ lw_good := lw_h4 55 rfl rfl
set_option maxRecDepth 100000 in
theorem ml_X6_75 : Cond.methodLink RX6 75 yJ9_abs_0f7a4 ∈ lw_good := lw_h4 59 rfl rfl
set_option maxRecDepth 100000 in
theorem sm_abs : Cond.static yJ9_abs_0f7a4 ∈ lw_good := lw_h4 60 rfl rfl
set_option maxRecDepth 100000 in
theorem cd_abs : Cond.code Lib.Math.abs.name Lib.Math.abs.code 1 (some .int) ∈ lw_good := lw_h4 61 rfl rfl
set_option maxRecDepth 100000 in
theorem ml_X10_134 : Cond.methodLink RX10 134 yJ9_abs_0f7a4 ∈ lw_good := lw_h4 62 rfl rfl
set_option maxRecDepth 100000 in
theorem ml_X10_137 : Cond.methodLink RX10 137 yJ9_max_7cf53 ∈ lw_good := lw_h4 63 rfl rfl
set_option maxRecDepth 100000 in
theorem ml_X11_298 : Cond.methodLink RX11 298 yX4_tellTwo ∈ lw_good := lw_h4 64 rfl rfl
set_option maxRecDepth 100000 in
theorem ml_X4_19 : Cond.methodLink RX4 19 yX4_clear ∈ lw_good := lw_h4 68 rfl rfl
set_option maxRecDepth 100000 in
theorem ml_X4_22 : Cond.methodLink RX4 22 yX4_add ∈ lw_good := lw_h4 72 rfl rfl
set_option maxRecDepth 100000 in
theorem ml_X11_305 : Cond.methodLink RX11 305 yX11_undoable ∈ lw_good := lw_h4 76 rfl rfl
set_option maxRecDepth 100000 in
theorem ml_X11_318 : Cond.methodLink RX11 318 yX11_isDone ∈ lw_good := lw_h4 80 rfl rfl
set_option maxRecDepth 100000 in
theorem ml_X11_321 : Cond.methodLink RX11 321 yX1_add ∈ lw_good := lw_h4 83 rfl rfl
set_option maxRecDepth 100000 in
theorem ml_X1_25 : Cond.methodLink RX1 25 yX6_copyFrom ∈ lw_good := lw_h4 87 rfl rfl
set_option maxRecDepth 100000 in
theorem ml_L_75 : Cond.methodLink RL 75 yX11_turnsTo ∈ lw_good := lw_h4 88 rfl rfl
set_option maxRecDepth 100000 in
theorem ml_X11_308 : Cond.methodLink RX11 308 yX6_turn ∈ lw_good := lw_h4 92 rfl rfl
set_option maxRecDepth 100000 in
theorem ml_X6_60 : Cond.methodLink RX6 60 yX6_isMourner ∈ lw_good := lw_h4 96 rfl rfl
set_option maxRecDepth 100000 in
theorem ml_X6_63 : Cond.methodLink RX6 63 yX6_hasEnded ∈ lw_good := lw_h4 100 rfl rfl
set_option maxRecDepth 100000 in
theorem ml_X6_56 : Cond.methodLink RX6 56 yX6_hasArrived ∈ lw_good := lw_h4 101 rfl rfl
set_option maxRecDepth 100000 in
theorem ml_L_79 : Cond.methodLink RL 79 yX11_pushes ∈ lw_good := lw_h4 102 rfl rfl
set_option maxRecDepth 100000 in
theorem ml_X11_311 : Cond.methodLink RX11 311 yX6_shove ∈ lw_good := lw_h4 106 rfl rfl
set_option maxRecDepth 100000 in
theorem ml_X6_66 : Cond.methodLink RX6 66 yX8_putOnStreet ∈ lw_good := lw_h4 110 rfl rfl
set_option maxRecDepth 100000 in
theorem ml_L_83 : Cond.methodLink RL 83 yX11_swaps ∈ lw_good := lw_h4 111 rfl rfl
set_option maxRecDepth 100000 in
theorem ml_X11_315 : Cond.methodLink RX11 315 yX6_exchange ∈ lw_good := lw_h4 115 rfl rfl
set_option maxRecDepth 100000 in
theorem ml_X6_72 : Cond.methodLink RX6 72 yX6_isHearse ∈ lw_good := lw_h4 119 rfl rfl
set_option maxRecDepth 100000 in
theorem ml_L_87 : Cond.methodLink RL 87 yX11_hour ∈ lw_good := lw_h4 123 rfl rfl
set_option maxRecDepth 100000 in
theorem ml_X11_324 : Cond.methodLink RX11 324 yX11_hourFault ∈ lw_good := lw_h4 127 rfl rfl
set_option maxRecDepth 100000 in
theorem ml_X11_327 : Cond.methodLink RX11 327 yX9_isRead ∈ lw_good := lw_h4 131 rfl rfl
set_option maxRecDepth 100000 in
theorem ml_X11_336 : Cond.methodLink RX11 336 yX11_passAct ∈ lw_good := lw_h4 132 rfl rfl
set_option maxRecDepth 100000 in
theorem ml_X11_339 : Cond.methodLink RX11 339 yX9_digit ∈ lw_good := lw_h4 136 rfl rfl
set_option maxRecDepth 100000 in
theorem ml_X11_330 : Cond.methodLink RX11 330 yX11_doAct ∈ lw_good := lw_h4 137 rfl rfl
set_option maxRecDepth 100000 in
theorem ml_L_91 : Cond.methodLink RL 91 yX11_undo ∈ lw_good := lw_h4 141 rfl rfl
set_option maxRecDepth 100000 in
theorem ml_X11_342 : Cond.methodLink RX11 342 yX1_takeBack ∈ lw_good := lw_h4 145 rfl rfl
set_option maxRecDepth 100000 in
theorem ml_L_95 : Cond.methodLink RL 95 yX11_line ∈ lw_good := lw_h4 149 rfl rfl
set_option maxRecDepth 100000 in
theorem ml_X11_349 : Cond.methodLink RX11 349 yX4_clear ∈ lw_good := lw_h4 153 rfl rfl
set_option maxRecDepth 100000 in
theorem ml_X11_353 : Cond.methodLink RX11 353 yX6_foremostBelow ∈ lw_good := lw_h4 154 rfl rfl
set_option maxRecDepth 100000 in
theorem ml_X11_356 : Cond.methodLink RX11 356 yX4_add ∈ lw_good := lw_h4 155 rfl rfl
set_option maxRecDepth 100000 in
theorem ml_L_99 : Cond.methodLink RL 99 yX11_ahead ∈ lw_good := lw_h4 156 rfl rfl
set_option maxRecDepth 100000 in
theorem ml_L_103 : Cond.methodLink RL 103 yX11_arrives ∈ lw_good := lw_h4 160 rfl rfl
set_option maxRecDepth 100000 in
theorem ml_X11_220 : Cond.methodLink RX11 220 yX6_isHearse ∈ lw_good := lw_h4 164 rfl rfl
set_option maxRecDepth 100000 in
theorem ml_X11_255 : Cond.methodLink RX11 255 yX6_hasArrived ∈ lw_good := lw_h4 165 rfl rfl
set_option maxRecDepth 100000 in
theorem ml_X11_362 : Cond.methodLink RX11 362 yX10_advance ∈ lw_good := lw_h4 166 rfl rfl
set_option maxRecDepth 100000 in
theorem ml_X11_366 : Cond.methodLink RX11 366 yX4_tellOne ∈ lw_good := lw_h4 167 rfl rfl
set_option maxRecDepth 100000 in
theorem ml_L_107 : Cond.methodLink RL 107 yX11_jam ∈ lw_good := lw_h4 171 rfl rfl
set_option maxRecDepth 100000 in
theorem ml_L_111 : Cond.methodLink RL 111 yX11_passes ∈ lw_good := lw_h4 175 rfl rfl
set_option maxRecDepth 100000 in
theorem ml_X11_372 : Cond.methodLink RX11 372 yX6_isAheadOf ∈ lw_good := lw_h4 179 rfl rfl
set_option maxRecDepth 100000 in
theorem ml_L_115 : Cond.methodLink RL 115 yX11_ends ∈ lw_good := lw_h4 183 rfl rfl
set_option maxRecDepth 100000 in
theorem ml_X11_265 : Cond.methodLink RX11 265 yX6_isMourner ∈ lw_good := lw_h4 187 rfl rfl
set_option maxRecDepth 100000 in
theorem ml_X11_376 : Cond.methodLink RX11 376 yX10_forgetTallies ∈ lw_good := lw_h4 188 rfl rfl
set_option maxRecDepth 100000 in
theorem ml_L_119 : Cond.methodLink RL 119 yX11_right ∈ lw_good := lw_h4 189 rfl rfl
set_option maxRecDepth 100000 in
theorem ml_X11_382 : Cond.methodLink RX11 382 yX11_rightOnesOfTrial ∈ lw_good := lw_h4 193 rfl rfl
set_option maxRecDepth 100000 in
theorem ml_X11_394 : Cond.methodLink RX11 394 yX10_toEnd ∈ lw_good := lw_h4 197 rfl rfl
set_option maxRecDepth 100000 in
theorem ml_X10_40 : Cond.methodLink RX10 40 yX2_period ∈ lw_good := lw_h4 201 rfl rfl
set_option maxRecDepth 100000 in
theorem ml_X11_397 : Cond.methodLink RX11 397 yX6_rightBits ∈ lw_good := lw_h4 205 rfl rfl
set_option maxRecDepth 100000 in
theorem ml_X6_86 : Cond.methodLink RX6 86 yX6_isRight ∈ lw_good := lw_h4 209 rfl rfl
set_option maxRecDepth 100000 in
theorem ml_X11_386 : Cond.methodLink RX11 386 yX6_wrongBits ∈ lw_good := lw_h4 213 rfl rfl
set_option maxRecDepth 100000 in
theorem ml_X11_389 : Cond.methodLink RX11 389 yJ6_bitCount_0f7a4 ∈ lw_good := lw_h4 217 rfl rfl
set_option maxRecDepth 100000 in
theorem ml_L_123 : Cond.methodLink RL 123 yX11_order ∈ lw_good := lw_h4 218 rfl rfl
set_option maxRecDepth 100000 in
theorem ml_X11_400 : Cond.methodLink RX11 400 yX3_begin ∈ lw_good := lw_h4 222 rfl rfl
set_option maxRecDepth 100000 in
theorem ml_X3_26 : Cond.methodLink RX3 26 yX6_hearseOn ∈ lw_good := lw_h4 226 rfl rfl
set_option maxRecDepth 100000 in
theorem ml_X11_406 : Cond.methodLink RX11 406 yX6_placeHearses ∈ lw_good := lw_h4 227 rfl rfl
set_option maxRecDepth 100000 in
theorem ml_X11_410 : Cond.methodLink RX11 410 yX3_markBest ∈ lw_good := lw_h4 231 rfl rfl
set_option maxRecDepth 100000 in
theorem ml_X3_32 : Cond.methodLink RX3 32 arraycopyName ∈ lw_good := lw_h4 235 rfl rfl
set_option maxRecDepth 100000 in
theorem ml_X11_413 : Cond.methodLink RX11 413 yX3_toNext ∈ lw_good := lw_h4 236 rfl rfl
set_option maxRecDepth 100000 in
theorem ml_X3_38 : Cond.methodLink RX3 38 yX3_exchangeCells ∈ lw_good := lw_h5 0 rfl rfl
set_option maxRecDepth 100000 in
theorem ml_L_127 : Cond.methodLink RL 127 yX11_stands ∈ lw_good := lw_h5 4 rfl rfl
set_option maxRecDepth 100000 in
theorem ml_X11_420 : Cond.methodLink RX11 420 yX6_isRight ∈ lw_good := lw_h5 8 rfl rfl
set_option maxRecDepth 100000 in
theorem ml_L_131 : Cond.methodLink RL 131 yX11_when ∈ lw_good := lw_h5 9 rfl rfl
set_option maxRecDepth 100000 in
theorem ml_X11_423 : Cond.methodLink RX11 423 yX11_isTurned ∈ lw_good := lw_h5 13 rfl rfl
set_option maxRecDepth 100000 in
theorem ml_L_135 : Cond.methodLink RL 135 yX11_mends ∈ lw_good := lw_h5 17 rfl rfl
set_option maxRecDepth 100000 in
theorem ml_X11_426 : Cond.methodLink RX11 426 yX11_ableToTurn ∈ lw_good := lw_h5 21 rfl rfl
set_option maxRecDepth 100000 in
theorem ml_X11_429 : Cond.methodLink RX11 429 yX11_turnInTrial ∈ lw_good := lw_h5 25 rfl rfl
set_option maxRecDepth 100000 in
theorem ml_L_139 : Cond.methodLink RL 139 yX11_misleads ∈ lw_good := lw_h5 29 rfl rfl
set_option maxRecDepth 100000 in
theorem ml_X11_432 : Cond.methodLink RX11 432 yX6_takeAway ∈ lw_good := lw_h5 33 rfl rfl
set_option maxRecDepth 100000 in
theorem ml_X6_52 : Cond.methodLink RX6 52 yX6_arrive ∈ lw_good := lw_h5 37 rfl rfl
set_option maxRecDepth 100000 in
theorem ml_X11_243 : Cond.methodLink RX11 243 yX6_bitsOf ∈ lw_good := lw_h5 38 rfl rfl
set_option maxRecDepth 100000 in
theorem ml_X11_435 : Cond.methodLink RX11 435 yJ9_max_7cf53 ∈ lw_good := lw_h5 39 rfl rfl
set_option maxRecDepth 100000 in
theorem ml_L_143 : Cond.methodLink RL 143 yX11_crowd ∈ lw_good := lw_h5 40 rfl rfl
set_option maxRecDepth 100000 in
theorem ml_L_147 : Cond.methodLink RL 147 yX11_shares ∈ lw_good := lw_h5 44 rfl rfl
set_option maxRecDepth 100000 in
theorem ml_X11_440 : Cond.methodLink RX11 440 yX7_weigh ∈ lw_good := lw_h5 48 rfl rfl
set_option maxRecDepth 100000 in
theorem ml_X7_28 : Cond.methodLink RX7 28 yX7_mostFrom ∈ lw_good := lw_h5 52 rfl rfl
set_option maxRecDepth 100000 in
theorem ml_X7_32 : Cond.methodLink RX7 32 yX7_canHave ∈ lw_good := lw_h5 56 rfl rfl
set_option maxRecDepth 100000 in
theorem ml_X7_42 : Cond.methodLink RX7 42 yX6_hasEnded ∈ lw_good := lw_h5 60 rfl rfl
set_option maxRecDepth 100000 in
theorem ml_X7_46 : Cond.methodLink RX7 46 yX6_hasArrived ∈ lw_good := lw_h5 61 rfl rfl
set_option maxRecDepth 100000 in
theorem ml_X7_56 : Cond.methodLink RX7 56 yJ9_abs_0f7a4 ∈ lw_good := lw_h5 62 rfl rfl
set_option maxRecDepth 100000 in
theorem ml_X7_36 : Cond.methodLink RX7 36 yJ9_max_7cf53 ∈ lw_good := lw_h5 63 rfl rfl
set_option maxRecDepth 100000 in
theorem ml_X11_444 : Cond.methodLink RX11 444 yX7_choice ∈ lw_good := lw_h5 64 rfl rfl
set_option maxRecDepth 100000 in
theorem ml_L_151 : Cond.methodLink RL 151 yX11_strangers ∈ lw_good := lw_h5 68 rfl rfl
set_option maxRecDepth 100000 in
theorem ml_X11_448 : Cond.methodLink RX11 448 yJ9_abs_0f7a4 ∈ lw_good := lw_h5 72 rfl rfl
set_option maxRecDepth 100000 in
theorem ml_L_155 : Cond.methodLink RL 155 yX11_doubts ∈ lw_good := lw_h5 73 rfl rfl
set_option maxRecDepth 100000 in
theorem ml_X11_451 : Cond.methodLink RX11 451 yX6_isInDoubt ∈ lw_good := lw_h5 77 rfl rfl
set_option maxRecDepth 100000 in
theorem ml_X6_80 : Cond.methodLink RX6 80 yX6_nearestTo ∈ lw_good := lw_h5 81 rfl rfl
set_option maxRecDepth 100000 in
theorem ml_X6_83 : Cond.methodLink RX6 83 yX6_hearseOn ∈ lw_good := lw_h5 82 rfl rfl
set_option maxRecDepth 100000 in
theorem ml_L_159 : Cond.methodLink RL 159 yX11_heard ∈ lw_good := lw_h5 83 rfl rfl
set_option maxRecDepth 100000 in
theorem ml_X11_454 : Cond.methodLink RX11 454 yX0_add ∈ lw_good := lw_h5 87 rfl rfl
set_option maxRecDepth 100000 in
theorem ml_X0_22 : Cond.methodLink RX0 22 yX0_canBe ∈ lw_good := lw_h5 91 rfl rfl
set_option maxRecDepth 100000 in
theorem ml_L_163 : Cond.methodLink RL 163 yX11_forget ∈ lw_good := lw_h5 94 rfl rfl
set_option maxRecDepth 100000 in
theorem ml_L_167 : Cond.methodLink RL 167 yX11_fits ∈ lw_good := lw_h5 98 rfl rfl
set_option maxRecDepth 100000 in
theorem ml_X11_457 : Cond.methodLink RX11 457 yX0_isTrueOf ∈ lw_good := lw_h5 102 rfl rfl
set_option maxRecDepth 100000 in
theorem ml_X0_26 : Cond.methodLink RX0 26 yX0_isOneTrueOf ∈ lw_good := lw_h5 106 rfl rfl
set_option maxRecDepth 100000 in
theorem ml_X0_35 : Cond.methodLink RX0 35 yX6_bitsOf ∈ lw_good := lw_h5 110 rfl rfl
set_option maxRecDepth 100000 in
theorem ml_X0_39 : Cond.methodLink RX0 39 yJ6_bitCount_0f7a4 ∈ lw_good := lw_h5 111 rfl rfl
set_option maxRecDepth 100000 in
theorem ml_L_171 : Cond.methodLink RL 171 yX11_rains ∈ lw_good := lw_h5 112 rfl rfl
set_option maxRecDepth 100000 in
theorem ml_X11_461 : Cond.methodLink RX11 461 yX11_power ∈ lw_good := lw_h5 116 rfl rfl
set_option maxRecDepth 100000 in
theorem ct_X11_465 : Cond.constantLong RX11 465 (10) ∈ lw_good := lw_h5 119 rfl rfl
set_option maxRecDepth 100000 in
theorem ml_X11_467 : Cond.methodLink RX11 467 yX11_commonDivisor ∈ lw_good := lw_h5 120 rfl rfl
set_option maxRecDepth 100000 in
theorem ml_L_176 : Cond.methodLink RL 176 yX11_law ∈ lw_good := lw_h5 123 rfl rfl
set_option maxRecDepth 100000 in
theorem ml_L_180 : Cond.methodLink RL 180 yX11_rests ∈ lw_good := lw_h5 127 rfl rfl
set_option maxRecDepth 100000 in
theorem ml_X11_471 : Cond.methodLink RX11 471 yX11_isBestAnswer ∈ lw_good := lw_h5 131 rfl rfl
set_option maxRecDepth 100000 in
theorem ml_X11_475 : Cond.methodLink RX11 475 yX11_gain ∈ lw_good := lw_h5 134 rfl rfl
set_option maxRecDepth 100000 in
theorem ml_L_184 : Cond.methodLink RL 184 yX11_years ∈ lw_good := lw_h5 137 rfl rfl
set_option maxRecDepth 100000 in
theorem ml_X11_479 : Cond.methodLink RX11 479 yX11_draw ∈ lw_good := lw_h5 141 rfl rfl
set_option maxRecDepth 100000 in
theorem ct_X11_485 : Cond.constant RX11 485 (1103515245) ∈ lw_good := lw_h5 145 rfl rfl
set_option maxRecDepth 100000 in
theorem ml_L_188 : Cond.methodLink RL 188 yX11_keep ∈ lw_good := lw_h5 146 rfl rfl
set_option maxRecDepth 100000 in
theorem ml_L_192 : Cond.methodLink RL 192 yX11_again ∈ lw_good := lw_h5 150 rfl rfl
set_option maxRecDepth 100000 in
theorem ml_L_196 : Cond.methodLink RL 196 yX11_count ∈ lw_good := lw_h5 154 rfl rfl
set_option maxRecDepth 100000 in
theorem ml_X11_489 : Cond.methodLink RX11 489 yX8_weatherAt ∈ lw_good := lw_h5 158 rfl rfl
set_option maxRecDepth 100000 in
theorem ml_L_7 : Cond.methodLink RL 7 yX11_hearse ∈ lw_good := lw_h5 163 rfl rfl
end
section
theorem lw_nl : ∀ w ∈ ([] : List Cond), w ∈ lw_good := fun _ h => absurd h List.not_mem_nil
theorem lw_cn {a : Cond} {l : List Cond} (h : a ∈ lw_good) (t : ∀ w ∈ l, w ∈ lw_good) : ∀ w ∈ a :: l, w ∈ lw_good := List.forall_mem_cons.mpr ⟨h, t⟩
set_option maxRecDepth 100000 in
theorem ml_X11_237 : Cond.methodLink RX11 237 yX11_paceNow ∈ lw_good := lw_h5 232 rfl rfl
set_option maxRecDepth 100000 in
theorem ml_X11_258 : Cond.methodLink RX11 258 yX2_observe ∈ lw_good := lw_h5 236 rfl rfl
set_option maxRecDepth 100000 in
theorem ml_X11_262 : Cond.methodLink RX11 262 yX2_pace ∈ lw_good := lw_h5 237 rfl rfl
set_option maxRecDepth 100000 in
theorem ml_L_15 : Cond.methodLink RL 15 yX11_mourner ∈ lw_good := lw_h6 2 rfl rfl
set_option maxRecDepth 100000 in
theorem ml_X11_273 : Cond.methodLink RX11 273 yX6_nearestTo ∈ lw_good := lw_h6 7 rfl rfl
set_option maxRecDepth 100000 in
theorem ml_L_18 : Cond.methodLink RL 18 yX11_row ∈ lw_good := lw_h6 12 rfl rfl
set_option maxRecDepth 100000 in
theorem cl_L_23 : Cond.classLink RL 23 RX12 ∈ lw_good := lw_h6 17 rfl rfl
set_option maxRecDepth 100000 in
theorem it_X12 : Cond.instantiable RX12 53 ∈ lw_good := lw_h6 18 rfl rfl
set_option maxRecDepth 100000 in
theorem ml_L_25 : Cond.methodLink RL 25 yX12_init ∈ lw_good := lw_h6 19 rfl rfl
set_option maxRecDepth 100000 in
theorem ml_X12_3 : Cond.methodLink RX12 3 objectInit ∈ lw_good := lw_h6 22 rfl rfl
set_option maxRecDepth 100000 in
theorem fl_X12_112 : Cond.fieldLink RX12 112 "BehindAnotherHearseModel" "thrown" "I" ∈ lw_good := lw_h6 23 rfl rfl
set_option maxRecDepth 100000 in
theorem fl_X12_119 : Cond.fieldLink RX12 119 "BehindAnotherHearseModel" "told" "I" ∈ lw_good := lw_h6 24 rfl rfl
set_option maxRecDepth 100000 in
theorem fl_X12_9 : Cond.fieldLink RX12 9 "BehindAnotherHearseModel" "row" "[J" ∈ lw_good := lw_h6 25 rfl rfl
set_option maxRecDepth 100000 in
theorem fl_X12_13 : Cond.fieldLink RX12 13 "BehindAnotherHearseModel" "cells" "I" ∈ lw_good := lw_h6 26 rfl rfl
set_option maxRecDepth 100000 in
theorem fl_X12_122 : Cond.fieldLink RX12 122 "BehindAnotherHearseModel" "hearses" "I" ∈ lw_good := lw_h6 27 rfl rfl
set_option maxRecDepth 100000 in
theorem fl_X12_129 : Cond.fieldLink RX12 129 "BehindAnotherHearseModel" "mourners" "I" ∈ lw_good := lw_h6 28 rfl rfl
set_option maxRecDepth 100000 in
theorem fl_X12_211 : Cond.fieldLink RX12 211 "BehindAnotherHearseModel" "changes" "I" ∈ lw_good := lw_h6 29 rfl rfl
set_option maxRecDepth 100000 in
theorem fl_X12_17 : Cond.fieldLink RX12 17 "BehindAnotherHearseModel" "skyLong" "I" ∈ lw_good := lw_h6 30 rfl rfl
set_option maxRecDepth 100000 in
theorem fl_X12_20 : Cond.fieldLink RX12 20 "BehindAnotherHearseModel" "corner" "[Z" ∈ lw_good := lw_h6 31 rfl rfl
set_option maxRecDepth 100000 in
theorem fl_X12_24 : Cond.fieldLink RX12 24 "BehindAnotherHearseModel" "own" "[I" ∈ lw_good := lw_h6 32 rfl rfl
set_option maxRecDepth 100000 in
theorem fl_X12_28 : Cond.fieldLink RX12 28 "BehindAnotherHearseModel" "sky" "[I" ∈ lw_good := lw_h6 33 rfl rfl
set_option maxRecDepth 100000 in
theorem fl_X12_31 : Cond.fieldLink RX12 31 "BehindAnotherHearseModel" "now" "[I" ∈ lw_good := lw_h6 34 rfl rfl
set_option maxRecDepth 100000 in
theorem fl_X12_34 : Cond.fieldLink RX12 34 "BehindAnotherHearseModel" "then" "[I" ∈ lw_good := lw_h6 35 rfl rfl
set_option maxRecDepth 100000 in
theorem fl_X12_37 : Cond.fieldLink RX12 37 "BehindAnotherHearseModel" "tape" "[I" ∈ lw_good := lw_h6 36 rfl rfl
set_option maxRecDepth 100000 in
theorem fl_X12_136 : Cond.fieldLink RX12 136 "BehindAnotherHearseModel" "taped" "I" ∈ lw_good := lw_h6 37 rfl rfl
set_option maxRecDepth 100000 in
theorem fl_X12_139 : Cond.fieldLink RX12 139 "BehindAnotherHearseModel" "at" "I" ∈ lw_good := lw_h6 38 rfl rfl
set_option maxRecDepth 100000 in
theorem fl_X12_151 : Cond.fieldLink RX12 151 "BehindAnotherHearseModel" "to" "I" ∈ lw_good := lw_h6 39 rfl rfl
set_option maxRecDepth 100000 in
theorem fl_X12_142 : Cond.fieldLink RX12 142 "BehindAnotherHearseModel" "nest" "I" ∈ lw_good := lw_h6 40 rfl rfl
set_option maxRecDepth 100000 in
theorem fl_X12_40 : Cond.fieldLink RX12 40 "BehindAnotherHearseModel" "readCorner" "[Z" ∈ lw_good := lw_h6 41 rfl rfl
set_option maxRecDepth 100000 in
theorem fl_X12_43 : Cond.fieldLink RX12 43 "BehindAnotherHearseModel" "read" "[I" ∈ lw_good := lw_h6 42 rfl rfl
set_option maxRecDepth 100000 in
theorem fl_X12_199 : Cond.fieldLink RX12 199 "BehindAnotherHearseModel" "readMany" "I" ∈ lw_good := lw_h6 43 rfl rfl
set_option maxRecDepth 100000 in
theorem fl_X12_46 : Cond.fieldLink RX12 46 "BehindAnotherHearseModel" "readSky" "[I" ∈ lw_good := lw_h6 44 rfl rfl
set_option maxRecDepth 100000 in
theorem fl_X12_49 : Cond.fieldLink RX12 49 "BehindAnotherHearseModel" "code" "[I" ∈ lw_good := lw_h6 45 rfl rfl
set_option maxRecDepth 100000 in
theorem fl_X12_52 : Cond.fieldLink RX12 52 "BehindAnotherHearseModel" "readCode" "[I" ∈ lw_good := lw_h6 46 rfl rfl
set_option maxRecDepth 100000 in
theorem fl_X12_252 : Cond.fieldLink RX12 252 "BehindAnotherHearseModel" "codeLong" "I" ∈ lw_good := lw_h6 47 rfl rfl
set_option maxRecDepth 100000 in
theorem fl_X12_231 : Cond.fieldLink RX12 231 "BehindAnotherHearseModel" "codesRead" "I" ∈ lw_good := lw_h6 48 rfl rfl
set_option maxRecDepth 100000 in
theorem fl_X12_55 : Cond.fieldLink RX12 55 "BehindAnotherHearseModel" "stack" "[I" ∈ lw_good := lw_h6 49 rfl rfl
set_option maxRecDepth 100000 in
theorem fl_X12_58 : Cond.fieldLink RX12 58 "BehindAnotherHearseModel" "asked" "[I" ∈ lw_good := lw_h6 50 rfl rfl
set_option maxRecDepth 100000 in
theorem fl_X12_186 : Cond.fieldLink RX12 186 "BehindAnotherHearseModel" "undos" "I" ∈ lw_good := lw_h6 51 rfl rfl
set_option maxRecDepth 100000 in
theorem fl_X12_61 : Cond.fieldLink RX12 61 "BehindAnotherHearseModel" "undone" "[I" ∈ lw_good := lw_h6 52 rfl rfl
set_option maxRecDepth 100000 in
theorem fl_X12_327 : Cond.fieldLink RX12 327 "BehindAnotherHearseModel" "waits" "I" ∈ lw_good := lw_h6 53 rfl rfl
set_option maxRecDepth 100000 in
theorem fl_X12_330 : Cond.fieldLink RX12 330 "BehindAnotherHearseModel" "turnings" "I" ∈ lw_good := lw_h6 54 rfl rfl
set_option maxRecDepth 100000 in
theorem fl_X12_64 : Cond.fieldLink RX12 64 "BehindAnotherHearseModel" "waitOn" "[I" ∈ lw_good := lw_h6 55 rfl rfl
set_option maxRecDepth 100000 in
theorem fl_X12_67 : Cond.fieldLink RX12 67 "BehindAnotherHearseModel" "turnOf" "[I" ∈ lw_good := lw_h6 56 rfl rfl
set_option maxRecDepth 100000 in
theorem fl_X12_70 : Cond.fieldLink RX12 70 "BehindAnotherHearseModel" "line" "[I" ∈ lw_good := lw_h6 57 rfl rfl
set_option maxRecDepth 100000 in
theorem fl_X12_321 : Cond.fieldLink RX12 321 "BehindAnotherHearseModel" "lineLong" "I" ∈ lw_good := lw_h6 58 rfl rfl
set_option maxRecDepth 100000 in
theorem fl_X12_73 : Cond.fieldLink RX12 73 "BehindAnotherHearseModel" "actSign" "[I" ∈ lw_good := lw_h6 59 rfl rfl
set_option maxRecDepth 100000 in
theorem fl_X12_76 : Cond.fieldLink RX12 76 "BehindAnotherHearseModel" "actOne" "[I" ∈ lw_good := lw_h6 60 rfl rfl
set_option maxRecDepth 100000 in
theorem fl_X12_79 : Cond.fieldLink RX12 79 "BehindAnotherHearseModel" "actTwo" "[I" ∈ lw_good := lw_h6 61 rfl rfl
set_option maxRecDepth 100000 in
theorem fl_X12_374 : Cond.fieldLink RX12 374 "BehindAnotherHearseModel" "acts" "I" ∈ lw_good := lw_h6 62 rfl rfl
set_option maxRecDepth 100000 in
theorem fl_X12_82 : Cond.fieldLink RX12 82 "BehindAnotherHearseModel" "place" "[I" ∈ lw_good := lw_h6 63 rfl rfl
set_option maxRecDepth 100000 in
theorem fl_X12_85 : Cond.fieldLink RX12 85 "BehindAnotherHearseModel" "bestPlace" "[I" ∈ lw_good := lw_h6 64 rfl rfl
set_option maxRecDepth 100000 in
theorem fl_X12_404 : Cond.fieldLink RX12 404 "BehindAnotherHearseModel" "bestMany" "I" ∈ lw_good := lw_h6 65 rfl rfl
set_option maxRecDepth 100000 in
theorem fl_X12_88 : Cond.fieldLink RX12 88 "BehindAnotherHearseModel" "given" "[I" ∈ lw_good := lw_h6 66 rfl rfl
set_option maxRecDepth 100000 in
theorem fl_X12_91 : Cond.fieldLink RX12 91 "BehindAnotherHearseModel" "bestGiven" "[I" ∈ lw_good := lw_h6 67 rfl rfl
set_option maxRecDepth 100000 in
theorem fl_X12_423 : Cond.fieldLink RX12 423 "BehindAnotherHearseModel" "heardMany" "I" ∈ lw_good := lw_h6 68 rfl rfl
set_option maxRecDepth 100000 in
theorem fl_X12_94 : Cond.fieldLink RX12 94 "BehindAnotherHearseModel" "heardWhat" "[I" ∈ lw_good := lw_h6 69 rfl rfl
set_option maxRecDepth 100000 in
theorem fl_X12_97 : Cond.fieldLink RX12 97 "BehindAnotherHearseModel" "heardOf" "[I" ∈ lw_good := lw_h6 70 rfl rfl
set_option maxRecDepth 100000 in
theorem fl_X12_100 : Cond.fieldLink RX12 100 "BehindAnotherHearseModel" "wasCode" "[I" ∈ lw_good := lw_h6 71 rfl rfl
set_option maxRecDepth 100000 in
theorem fl_X12_442 : Cond.fieldLink RX12 442 "BehindAnotherHearseModel" "random" "I" ∈ lw_good := lw_h6 72 rfl rfl
set_option maxRecDepth 100000 in
theorem fl_X12_103 : Cond.fieldLink RX12 103 "BehindAnotherHearseModel" "isKept" "[Z" ∈ lw_good := lw_h6 73 rfl rfl
set_option maxRecDepth 100000 in
theorem fl_X12_106 : Cond.fieldLink RX12 106 "BehindAnotherHearseModel" "keptChanges" "[I" ∈ lw_good := lw_h6 74 rfl rfl
set_option maxRecDepth 100000 in
theorem fl_X12_109 : Cond.fieldLink RX12 109 "BehindAnotherHearseModel" "kept" "[I" ∈ lw_good := lw_h6 75 rfl rfl
set_option maxRecDepth 100000 in
theorem ml_L_30 : Cond.methodLink RL 30 yX12_sign ∈ lw_good := lw_h6 183 rfl rfl
set_option maxRecDepth 100000 in
theorem ml_L_35 : Cond.methodLink RL 35 yX12_end ∈ lw_good := lw_h6 187 rfl rfl
set_option maxRecDepth 100000 in
theorem ml_X12_125 : Cond.methodLink RX12 125 yX12_in ∈ lw_good := lw_h6 191 rfl rfl
set_option maxRecDepth 100000 in
theorem ml_L_40 : Cond.methodLink RL 40 yX12_avenue ∈ lw_good := lw_h6 194 rfl rfl
set_option maxRecDepth 100000 in
theorem ml_X12_176 : Cond.methodLink RX12 176 yX12_begins ∈ lw_good := lw_h6 198 rfl rfl
set_option maxRecDepth 100000 in
theorem ml_X12_145 : Cond.methodLink RX12 145 yJ9_min_7cf53 ∈ lw_good := lw_h6 202 rfl rfl
set_option maxRecDepth 100000 in
theorem ml_X12_182 : Cond.methodLink RX12 182 yX12_takesOf ∈ lw_good := lw_h6 204 rfl rfl
set_option maxRecDepth 100000 in
theorem ml_X12_162 : Cond.methodLink RX12 162 yJ0_length_8abf5 ∈ lw_good := lw_h6 208 rfl rfl
set_option maxRecDepth 100000 in
theorem ml_X12_168 : Cond.methodLink RX12 168 yJ0_charAt_5068e ∈ lw_good := lw_h6 209 rfl rfl
set_option maxRecDepth 100000 in
theorem ml_J0_495 : Cond.methodLink RJ0 495 yJ1_charAt_3b067 ∈ lw_good := lw_h6 213 rfl rfl
set_option maxRecDepth 100000 in
theorem ml_J1_9 : Cond.methodLink RJ1 9 yJ0_checkIndex_df160 ∈ lw_good := lw_h6 216 rfl rfl
set_option maxRecDepth 100000 in
theorem ml_J0_1059 : Cond.methodLink RJ0 1059 yJ3_checkIndex_8e157 ∈ lw_good := lw_h6 219 rfl rfl
set_option maxRecDepth 100000 in
theorem ml_X12_154 : Cond.methodLink RX12 154 yX12_flag ∈ lw_good := lw_h6 229 rfl rfl
set_option maxRecDepth 100000 in
theorem ml_L_44 : Cond.methodLink RL 44 yX12_hearses ∈ lw_good := lw_h6 232 rfl rfl
set_option maxRecDepth 100000 in
theorem ml_X12_214 : Cond.methodLink RX12 214 yX12_readsHearse ∈ lw_good := lw_h6 236 rfl rfl
set_option maxRecDepth 100000 in
theorem ml_X12_202 : Cond.methodLink RX12 202 yX12_readsCell ∈ lw_good := lw_h7 0 rfl rfl
set_option maxRecDepth 100000 in
theorem ml_X12_189 : Cond.methodLink RX12 189 yX12_number ∈ lw_good := lw_h7 4 rfl rfl
set_option maxRecDepth 100000 in
theorem ml_X12_172 : Cond.methodLink RX12 172 yX12_isDigit ∈ lw_good := lw_h7 8 rfl rfl
set_option maxRecDepth 100000 in
theorem ct_X12_158 : Cond.constantLong RX12 158 (48) ∈ lw_good := lw_h7 12 rfl rfl
set_option maxRecDepth 100000 in
theorem ct_X12_160 : Cond.constantLong RX12 160 (57) ∈ lw_good := lw_h7 13 rfl rfl
set_option maxRecDepth 100000 in
theorem ml_X12_192 : Cond.methodLink RX12 192 yX12_gate ∈ lw_good := lw_h7 14 rfl rfl
set_option maxRecDepth 100000 in
theorem ml_X12_195 : Cond.methodLink RX12 195 yX12_onCell ∈ lw_good := lw_h7 18 rfl rfl
set_option maxRecDepth 100000 in
theorem ml_X12_217 : Cond.methodLink RX12 217 yX12_takes ∈ lw_good := lw_h7 22 rfl rfl
set_option maxRecDepth 100000 in
theorem ml_X12_221 : Cond.methodLink RX12 221 yX12_faultOf ∈ lw_good := lw_h7 26 rfl rfl
set_option maxRecDepth 100000 in
theorem ml_X12_225 : Cond.methodLink RX12 225 yX12_isNew ∈ lw_good := lw_h7 30 rfl rfl
set_option maxRecDepth 100000 in
theorem ml_L_48 : Cond.methodLink RL 48 yX12_mourners ∈ lw_good := lw_h7 34 rfl rfl
set_option maxRecDepth 100000 in
theorem ml_X12_228 : Cond.methodLink RX12 228 yX12_readsMourner ∈ lw_good := lw_h7 38 rfl rfl
set_option maxRecDepth 100000 in
theorem ml_X12_207 : Cond.methodLink RX12 207 yJ0_substring_37a41 ∈ lw_good := lw_h7 43 rfl rfl
set_option maxRecDepth 100000 in
theorem ml_J0_521 : Cond.methodLink RJ0 521 yJ0_checkBoundsBeginEnd_23922 ∈ lw_good := lw_h7 47 rfl rfl
set_option maxRecDepth 100000 in
theorem ml_J0_685 : Cond.methodLink RJ0 685 yJ1_newString_b4f7a ∈ lw_good := lw_h7 48 rfl rfl
set_option maxRecDepth 100000 in
theorem it_J0 : Cond.instantiable RJ0 4 ∈ lw_good := lw_h7 53 rfl rfl
set_option maxRecDepth 100000 in
theorem ml_J1_232 : Cond.methodLink RJ1 232 yJ7_copyOfRange_39247 ∈ lw_good := lw_h7 54 rfl rfl
set_option maxRecDepth 100000 in
theorem ml_J7_339 : Cond.methodLink RJ7 339 yJ7_copyOfRangeByte_39247 ∈ lw_good := lw_h7 57 rfl rfl
set_option maxRecDepth 100000 in
theorem ml_J7_343 : Cond.methodLink RJ7 343 yJ7_checkLength_df160 ∈ lw_good := lw_h7 60 rfl rfl
set_option maxRecDepth 100000 in
theorem ml_J7_304 : Cond.methodLink RJ7 304 yJ9_min_7cf53 ∈ lw_good := lw_h7 63 rfl rfl
set_option maxRecDepth 100000 in
theorem ml_J7_150 : Cond.methodLink RJ7 150 arraycopyName ∈ lw_good := lw_h7 64 rfl rfl
set_option maxRecDepth 100000 in
theorem ml_J1_112 : Cond.methodLink RJ1 112 yJ0_init_031fb ∈ lw_good := lw_h7 72 rfl rfl
set_option maxRecDepth 100000 in
theorem ml_J0_1 : Cond.methodLink RJ0 1 objectInit ∈ lw_good := lw_h7 75 rfl rfl
set_option maxRecDepth 100000 in
theorem ml_L_52 : Cond.methodLink RL 52 yX12_weather ∈ lw_good := lw_h7 117 rfl rfl
set_option maxRecDepth 100000 in
theorem ml_L_56 : Cond.methodLink RL 56 yX12_rule ∈ lw_good := lw_h7 121 rfl rfl
set_option maxRecDepth 100000 in
theorem ml_X12_255 : Cond.methodLink RX12 255 yX12_readsRule ∈ lw_good := lw_h7 125 rfl rfl
set_option maxRecDepth 100000 in
theorem ml_X12_243 : Cond.methodLink RX12 243 yX12_readsRank ∈ lw_good := lw_h7 129 rfl rfl
set_option maxRecDepth 100000 in
theorem ml_X12_234 : Cond.methodLink RX12 234 yX12_readsThing ∈ lw_good := lw_h7 133 rfl rfl
set_option maxRecDepth 100000 in
theorem ml_X12_237 : Cond.methodLink RX12 237 yX12_codes ∈ lw_good := lw_h7 137 rfl rfl
set_option maxRecDepth 100000 in
theorem ml_X12_258 : Cond.methodLink RX12 258 yX12_laysCode ∈ lw_good := lw_h7 145 rfl rfl
set_option maxRecDepth 100000 in
theorem ml_L_62 : Cond.methodLink RL 62 yX12_hearse ∈ lw_good := lw_h7 149 rfl rfl
set_option maxRecDepth 100000 in
theorem ml_X12_294 : Cond.methodLink RX12 294 yX12_isHearse ∈ lw_good := lw_h7 153 rfl rfl
set_option maxRecDepth 100000 in
theorem ct_X12_297 : Cond.constantLong RX12 297 (5) ∈ lw_good := lw_h7 157 rfl rfl
set_option maxRecDepth 100000 in
theorem ml_X12_299 : Cond.methodLink RX12 299 yX12_refuse ∈ lw_good := lw_h7 158 rfl rfl
set_option maxRecDepth 100000 in
theorem ml_X12_302 : Cond.methodLink RX12 302 yX12_paceOf ∈ lw_good := lw_h7 162 rfl rfl
set_option maxRecDepth 100000 in
theorem ml_X12_266 : Cond.methodLink RX12 266 yX12_isOn ∈ lw_good := lw_h7 166 rfl rfl
set_option maxRecDepth 100000 in
theorem ml_X12_269 : Cond.methodLink RX12 269 yX12_freeAhead ∈ lw_good := lw_h7 169 rfl rfl
set_option maxRecDepth 100000 in
theorem ml_X12_272 : Cond.methodLink RX12 272 yX12_weatherOn ∈ lw_good := lw_h7 173 rfl rfl
set_option maxRecDepth 100000 in
theorem ml_X12_275 : Cond.methodLink RX12 275 yX12_bitsBy ∈ lw_good := lw_h7 177 rfl rfl
set_option maxRecDepth 100000 in
theorem ml_X12_279 : Cond.methodLink RX12 279 yJ6_bitCount_0f7a4 ∈ lw_good := lw_h7 181 rfl rfl
set_option maxRecDepth 100000 in
theorem ml_X12_284 : Cond.methodLink RX12 284 yX12_ruled ∈ lw_good := lw_h7 182 rfl rfl
set_option maxRecDepth 100000 in
theorem ml_X12_262 : Cond.methodLink RX12 262 yX12_worked ∈ lw_good := lw_h7 186 rfl rfl
set_option maxRecDepth 100000 in
theorem ml_X12_287 : Cond.methodLink RX12 287 yJ9_max_7cf53 ∈ lw_good := lw_h7 189 rfl rfl
set_option maxRecDepth 100000 in
theorem ml_X12_305 : Cond.methodLink RX12 305 yX12_owners ∈ lw_good := lw_h7 190 rfl rfl
set_option maxRecDepth 100000 in
theorem ml_L_65 : Cond.methodLink RL 65 yX12_mourner ∈ lw_good := lw_h7 194 rfl rfl
set_option maxRecDepth 100000 in
theorem ml_X12_308 : Cond.methodLink RX12 308 yX12_isMourner ∈ lw_good := lw_h7 198 rfl rfl
set_option maxRecDepth 100000 in
theorem ct_X12_311 : Cond.constantLong RX12 311 (4) ∈ lw_good := lw_h7 202 rfl rfl
set_option maxRecDepth 100000 in
theorem ml_X12_313 : Cond.methodLink RX12 313 yX12_nearest ∈ lw_good := lw_h7 203 rfl rfl
set_option maxRecDepth 100000 in
theorem ml_X12_290 : Cond.methodLink RX12 290 yJ9_abs_0f7a4 ∈ lw_good := lw_h7 207 rfl rfl
set_option maxRecDepth 100000 in
theorem ct_X12_293 : Cond.constant RX12 293 (1000000) ∈ lw_good := lw_h7 208 rfl rfl
set_option maxRecDepth 100000 in
theorem ml_L_70 : Cond.methodLink RL 70 yX12_sheet ∈ lw_good := lw_h7 209 rfl rfl
set_option maxRecDepth 100000 in
theorem ct_X12_316 : Cond.constantLong RX12 316 (3) ∈ lw_good := lw_h7 213 rfl rfl
set_option maxRecDepth 100000 in
theorem ml_X12_132 : Cond.methodLink RX12 132 yX12_isEnded ∈ lw_good := lw_h7 214 rfl rfl
set_option maxRecDepth 100000 in
theorem ml_L_94 : Cond.methodLink RL 94 yX12_undo ∈ lw_good := lw_h7 217 rfl rfl
set_option maxRecDepth 100000 in
theorem ml_L_74 : Cond.methodLink RL 74 yX12_steps ∈ lw_good := lw_h7 221 rfl rfl
set_option maxRecDepth 100000 in
theorem ct_X12_350 : Cond.constantLong RX12 350 (60) ∈ lw_good := lw_h7 225 rfl rfl
set_option maxRecDepth 100000 in
theorem ml_X12_352 : Cond.methodLink RX12 352 yX12_putsBy ∈ lw_good := lw_h7 226 rfl rfl
set_option maxRecDepth 100000 in
theorem ml_X12_355 : Cond.methodLink RX12 355 yX12_goesOn ∈ lw_good := lw_h7 230 rfl rfl
set_option maxRecDepth 100000 in
theorem ml_X12_343 : Cond.methodLink RX12 343 yX12_stepGoes ∈ lw_good := lw_h7 234 rfl rfl
set_option maxRecDepth 100000 in
theorem ml_X12_333 : Cond.methodLink RX12 333 yX12_laysLine ∈ lw_good := lw_h7 238 rfl rfl
set_option maxRecDepth 100000 in
theorem ml_X12_337 : Cond.methodLink RX12 337 yX12_hearseGoes ∈ lw_good := lw_h8 2 rfl rfl
set_option maxRecDepth 100000 in
theorem ml_X12_324 : Cond.methodLink RX12 324 yX12_goal ∈ lw_good := lw_h8 6 rfl rfl
set_option maxRecDepth 100000 in
theorem ml_X12_340 : Cond.methodLink RX12 340 yX12_mournerGoes ∈ lw_good := lw_h8 10 rfl rfl
set_option maxRecDepth 100000 in
theorem ml_X12_358 : Cond.methodLink RX12 358 yX12_enters ∈ lw_good := lw_h8 14 rfl rfl
set_option maxRecDepth 100000 in
theorem ml_X12_318 : Cond.methodLink RX12 318 yX12_adds ∈ lw_good := lw_h8 18 rfl rfl
set_option maxRecDepth 100000 in
theorem ml_L_78 : Cond.methodLink RL 78 yX12_turnsTo ∈ lw_good := lw_h8 22 rfl rfl
set_option maxRecDepth 100000 in
theorem ml_X12_362 : Cond.methodLink RX12 362 yX12_turnsOne ∈ lw_good := lw_h8 26 rfl rfl
set_option maxRecDepth 100000 in
theorem ml_X12_365 : Cond.methodLink RX12 365 yX12_counted ∈ lw_good := lw_h8 30 rfl rfl
set_option maxRecDepth 100000 in
theorem ml_L_82 : Cond.methodLink RL 82 yX12_pushes ∈ lw_good := lw_h8 34 rfl rfl
set_option maxRecDepth 100000 in
theorem ml_X12_368 : Cond.methodLink RX12 368 yX12_pushesOne ∈ lw_good := lw_h8 38 rfl rfl
set_option maxRecDepth 100000 in
theorem ct_X12_346 : Cond.constantLong RX12 346 (-9) ∈ lw_good := lw_h8 42 rfl rfl
set_option maxRecDepth 100000 in
theorem ct_X12_348 : Cond.constantLong RX12 348 (9) ∈ lw_good := lw_h8 43 rfl rfl
set_option maxRecDepth 100000 in
theorem ml_L_86 : Cond.methodLink RL 86 yX12_swaps ∈ lw_good := lw_h8 44 rfl rfl
set_option maxRecDepth 100000 in
theorem ml_X12_371 : Cond.methodLink RX12 371 yX12_swapsTwo ∈ lw_good := lw_h8 48 rfl rfl
set_option maxRecDepth 100000 in
theorem ml_L_90 : Cond.methodLink RL 90 yX12_hour ∈ lw_good := lw_h8 52 rfl rfl
set_option maxRecDepth 100000 in
theorem ml_X12_382 : Cond.methodLink RX12 382 yX12_readsAct ∈ lw_good := lw_h8 56 rfl rfl
set_option maxRecDepth 100000 in
theorem ml_X12_379 : Cond.methodLink RX12 379 yX12_digitIn ∈ lw_good := lw_h8 61 rfl rfl
set_option maxRecDepth 100000 in
theorem ml_X12_385 : Cond.methodLink RX12 385 yX12_does ∈ lw_good := lw_h8 65 rfl rfl
set_option maxRecDepth 100000 in
theorem ml_L_98 : Cond.methodLink RL 98 yX12_line ∈ lw_good := lw_h8 69 rfl rfl
set_option maxRecDepth 100000 in
theorem ml_L_102 : Cond.methodLink RL 102 yX12_ahead ∈ lw_good := lw_h8 73 rfl rfl
set_option maxRecDepth 100000 in
theorem ct_X12_388 : Cond.constantLong RX12 388 (99) ∈ lw_good := lw_h8 77 rfl rfl
set_option maxRecDepth 100000 in
theorem ml_X12_390 : Cond.methodLink RX12 390 yX12_copies ∈ lw_good := lw_h8 78 rfl rfl
set_option maxRecDepth 100000 in
theorem ml_L_106 : Cond.methodLink RL 106 yX12_arrives ∈ lw_good := lw_h8 82 rfl rfl
set_option maxRecDepth 100000 in
theorem ml_L_110 : Cond.methodLink RL 110 yX12_jam ∈ lw_good := lw_h8 86 rfl rfl
set_option maxRecDepth 100000 in
theorem ml_L_114 : Cond.methodLink RL 114 yX12_passes ∈ lw_good := lw_h8 90 rfl rfl
set_option maxRecDepth 100000 in
theorem ml_X12_393 : Cond.methodLink RX12 393 yX12_isAhead ∈ lw_good := lw_h8 94 rfl rfl
set_option maxRecDepth 100000 in
theorem ml_L_118 : Cond.methodLink RL 118 yX12_ends ∈ lw_good := lw_h8 97 rfl rfl
set_option maxRecDepth 100000 in
theorem ml_L_122 : Cond.methodLink RL 122 yX12_right ∈ lw_good := lw_h8 101 rfl rfl
set_option maxRecDepth 100000 in
theorem ml_X12_401 : Cond.methodLink RX12 401 yX12_rightThen ∈ lw_good := lw_h8 105 rfl rfl
set_option maxRecDepth 100000 in
theorem ml_X12_397 : Cond.methodLink RX12 397 yX12_endedBy ∈ lw_good := lw_h8 109 rfl rfl
set_option maxRecDepth 100000 in
theorem ml_L_126 : Cond.methodLink RL 126 yX12_order ∈ lw_good := lw_h8 113 rfl rfl
set_option maxRecDepth 100000 in
theorem ml_X12_407 : Cond.methodLink RX12 407 yX12_places ∈ lw_good := lw_h8 117 rfl rfl
set_option maxRecDepth 100000 in
theorem ml_X12_411 : Cond.methodLink RX12 411 yX12_has ∈ lw_good := lw_h8 121 rfl rfl
set_option maxRecDepth 100000 in
theorem ml_L_130 : Cond.methodLink RL 130 yX12_stands ∈ lw_good := lw_h8 124 rfl rfl
set_option maxRecDepth 100000 in
theorem ml_L_134 : Cond.methodLink RL 134 yX12_when ∈ lw_good := lw_h8 128 rfl rfl
set_option maxRecDepth 100000 in
theorem ml_L_138 : Cond.methodLink RL 138 yX12_mends ∈ lw_good := lw_h8 132 rfl rfl
set_option maxRecDepth 100000 in
theorem ct_X12_415 : Cond.constantLong RX12 415 (8) ∈ lw_good := lw_h8 136 rfl rfl
set_option maxRecDepth 100000 in
theorem ml_L_142 : Cond.methodLink RL 142 yX12_misleads ∈ lw_good := lw_h8 137 rfl rfl
set_option maxRecDepth 100000 in
theorem ml_L_146 : Cond.methodLink RL 146 yX12_crowd ∈ lw_good := lw_h8 141 rfl rfl
set_option maxRecDepth 100000 in
theorem ml_L_150 : Cond.methodLink RL 150 yX12_shares ∈ lw_good := lw_h8 145 rfl rfl
set_option maxRecDepth 100000 in
theorem ct_X12_421 : Cond.constantLong RX12 421 (30) ∈ lw_good := lw_h8 149 rfl rfl
set_option maxRecDepth 100000 in
theorem ml_X12_417 : Cond.methodLink RX12 417 yX12_sharesFrom ∈ lw_good := lw_h8 150 rfl rfl
set_option maxRecDepth 100000 in
theorem ml_L_154 : Cond.methodLink RL 154 yX12_strangers ∈ lw_good := lw_h8 154 rfl rfl
set_option maxRecDepth 100000 in
theorem ml_L_158 : Cond.methodLink RL 158 yX12_doubts ∈ lw_good := lw_h8 158 rfl rfl
set_option maxRecDepth 100000 in
theorem ml_L_162 : Cond.methodLink RL 162 yX12_heard ∈ lw_good := lw_h8 162 rfl rfl
set_option maxRecDepth 100000 in
theorem ml_L_166 : Cond.methodLink RL 166 yX12_forget ∈ lw_good := lw_h8 166 rfl rfl
set_option maxRecDepth 100000 in
theorem ml_L_170 : Cond.methodLink RL 170 yX12_fits ∈ lw_good := lw_h8 170 rfl rfl
set_option maxRecDepth 100000 in
theorem ml_X12_426 : Cond.methodLink RX12 426 yX12_isSo ∈ lw_good := lw_h8 174 rfl rfl
set_option maxRecDepth 100000 in
theorem ml_L_175 : Cond.methodLink RL 175 yX12_rains ∈ lw_good := lw_h8 178 rfl rfl
set_option maxRecDepth 100000 in
theorem ct_X12_430 : Cond.constantLong RX12 430 (12) ∈ lw_good := lw_h8 182 rfl rfl
set_option maxRecDepth 100000 in
theorem ct_X12_432 : Cond.constantLong RX12 432 (10) ∈ lw_good := lw_h8 183 rfl rfl
set_option maxRecDepth 100000 in
theorem ml_X12_115 : Cond.methodLink RX12 115 yX12_common ∈ lw_good := lw_h8 184 rfl rfl
set_option maxRecDepth 100000 in
theorem ml_L_179 : Cond.methodLink RL 179 yX12_law ∈ lw_good := lw_h8 187 rfl rfl
set_option maxRecDepth 100000 in
theorem ml_L_183 : Cond.methodLink RL 183 yX12_rests ∈ lw_good := lw_h8 191 rfl rfl
set_option maxRecDepth 100000 in
theorem ct_X12_437 : Cond.constantLong RX12 437 (20) ∈ lw_good := lw_h8 195 rfl rfl
set_option maxRecDepth 100000 in
theorem ml_X12_439 : Cond.methodLink RX12 439 yX12_isRest ∈ lw_good := lw_h8 196 rfl rfl
set_option maxRecDepth 100000 in
theorem ml_X12_434 : Cond.methodLink RX12 434 yX12_gets ∈ lw_good := lw_h8 199 rfl rfl
set_option maxRecDepth 100000 in
theorem ml_L_187 : Cond.methodLink RL 187 yX12_years ∈ lw_good := lw_h8 202 rfl rfl
set_option maxRecDepth 100000 in
theorem ml_X12_446 : Cond.methodLink RX12 446 yX12_draws ∈ lw_good := lw_h8 206 rfl rfl
set_option maxRecDepth 100000 in
theorem ct_X12_445 : Cond.constant RX12 445 (1103515245) ∈ lw_good := lw_h8 210 rfl rfl
set_option maxRecDepth 100000 in
theorem ml_L_191 : Cond.methodLink RL 191 yX12_keep ∈ lw_good := lw_h8 211 rfl rfl
set_option maxRecDepth 100000 in
theorem ct_X12_449 : Cond.constantLong RX12 449 (2) ∈ lw_good := lw_h8 215 rfl rfl
set_option maxRecDepth 100000 in
theorem ml_L_195 : Cond.methodLink RL 195 yX12_again ∈ lw_good := lw_h8 216 rfl rfl
set_option maxRecDepth 100000 in
theorem ml_L_199 : Cond.methodLink RL 199 yX12_count ∈ lw_good := lw_h8 220 rfl rfl
set_option maxRecDepth 100000 in
theorem ml_L_203 : Cond.methodLink RL 203 yX12_row ∈ lw_good := lw_h8 224 rfl rfl
set_option maxRecDepth 100000 in
theorem iJ0 : ∀ w ∈ u_ws RJ0 TJ0 4, w ∈ lw_good := lw_cn (lw_h7 78 rfl rfl) (lw_cn (lw_h7 80 rfl rfl) (lw_cn (lw_h7 82 rfl rfl) (lw_cn (lw_h7 84 rfl rfl) (lw_nl))))
set_option maxRecDepth 100000 in
theorem iX0 : ∀ w ∈ u_ws RX0 TX0 3, w ∈ lw_good := lw_cn (lw_h2 23 rfl rfl) (lw_cn (lw_h2 25 rfl rfl) (lw_cn (lw_h2 27 rfl rfl) (lw_nl)))
set_option maxRecDepth 100000 in
theorem iX1 : ∀ w ∈ u_ws RX1 TX1 3, w ∈ lw_good := lw_cn (lw_h1 195 rfl rfl) (lw_cn (lw_h1 197 rfl rfl) (lw_cn (lw_h1 199 rfl rfl) (lw_nl)))
set_option maxRecDepth 100000 in
theorem iX2 : ∀ w ∈ u_ws RX2 TX2 6, w ∈ lw_good := lw_cn (lw_h2 61 rfl rfl) (lw_cn (lw_h2 63 rfl rfl) (lw_cn (lw_h2 65 rfl rfl) (lw_cn (lw_h2 67 rfl rfl) (lw_cn (lw_h2 69 rfl rfl) (lw_cn (lw_h2 71 rfl rfl) (lw_nl))))))
set_option maxRecDepth 100000 in
theorem iX3 : ∀ w ∈ u_ws RX3 TX3 3, w ∈ lw_good := lw_cn (lw_h2 6 rfl rfl) (lw_cn (lw_h2 8 rfl rfl) (lw_cn (lw_h2 10 rfl rfl) (lw_nl)))
set_option maxRecDepth 100000 in
theorem iX4 : ∀ w ∈ u_ws RX4 TX4 2, w ∈ lw_good := lw_cn (lw_h1 212 rfl rfl) (lw_cn (lw_h1 214 rfl rfl) (lw_nl))
set_option maxRecDepth 100000 in
theorem iX5 : ∀ w ∈ u_ws RX5 TX5 4, w ∈ lw_good := lw_cn (lw_h2 40 rfl rfl) (lw_cn (lw_h2 42 rfl rfl) (lw_cn (lw_h2 44 rfl rfl) (lw_cn (lw_h2 46 rfl rfl) (lw_nl))))
set_option maxRecDepth 100000 in
theorem iX6 : ∀ w ∈ u_ws RX6 TX6 11, w ∈ lw_good := lw_cn (lw_h1 130 rfl rfl) (lw_cn (lw_h1 132 rfl rfl) (lw_cn (lw_h1 134 rfl rfl) (lw_cn (lw_h1 136 rfl rfl) (lw_cn (lw_h1 138 rfl rfl) (lw_cn (lw_h1 140 rfl rfl) (lw_cn (lw_h1 142 rfl rfl) (lw_cn (lw_h1 144 rfl rfl) (lw_cn (lw_h1 146 rfl rfl) (lw_cn (lw_h1 148 rfl rfl) (lw_cn (lw_h1 150 rfl rfl) (lw_nl)))))))))))
set_option maxRecDepth 100000 in
theorem iX7 : ∀ w ∈ u_ws RX7 TX7 2, w ∈ lw_good := lw_cn (lw_h1 229 rfl rfl) (lw_cn (lw_h1 231 rfl rfl) (lw_nl))
set_option maxRecDepth 100000 in
theorem iX8 : ∀ w ∈ u_ws RX8 TX8 4, w ∈ lw_good := lw_cn (lw_h1 75 rfl rfl) (lw_cn (lw_h1 77 rfl rfl) (lw_cn (lw_h1 79 rfl rfl) (lw_cn (lw_h1 81 rfl rfl) (lw_nl))))
set_option maxRecDepth 100000 in
theorem iX9 : ∀ w ∈ u_ws RX9 TX9 4, w ∈ lw_good := lw_cn (lw_h1 49 rfl rfl) (lw_cn (lw_h1 51 rfl rfl) (lw_cn (lw_h1 53 rfl rfl) (lw_cn (lw_h1 55 rfl rfl) (lw_nl))))
set_option maxRecDepth 100000 in
theorem iX10 : ∀ w ∈ u_ws RX10 TX10 6, w ∈ lw_good := lw_cn (lw_h1 169 rfl rfl) (lw_cn (lw_h1 171 rfl rfl) (lw_cn (lw_h1 173 rfl rfl) (lw_cn (lw_h1 175 rfl rfl) (lw_cn (lw_h1 177 rfl rfl) (lw_cn (lw_h1 179 rfl rfl) (lw_nl))))))
set_option maxRecDepth 100000 in
theorem iX11 : ∀ w ∈ u_ws RX11 TX11 18, w ∈ lw_good := lw_cn (lw_h2 108 rfl rfl) (lw_cn (lw_h2 110 rfl rfl) (lw_cn (lw_h2 112 rfl rfl) (lw_cn (lw_h2 114 rfl rfl) (lw_cn (lw_h2 116 rfl rfl) (lw_cn (lw_h2 118 rfl rfl) (lw_cn (lw_h2 120 rfl rfl) (lw_cn (lw_h2 122 rfl rfl) (lw_cn (lw_h2 124 rfl rfl) (lw_cn (lw_h2 126 rfl rfl) (lw_cn (lw_h2 128 rfl rfl) (lw_cn (lw_h2 130 rfl rfl) (lw_cn (lw_h2 132 rfl rfl) (lw_cn (lw_h2 134 rfl rfl) (lw_cn (lw_h2 136 rfl rfl) (lw_cn (lw_h2 138 rfl rfl) (lw_cn (lw_h2 140 rfl rfl) (lw_cn (lw_h2 142 rfl rfl) (lw_nl))))))))))))))))))
set_option maxRecDepth 100000 in
theorem iX12 : ∀ w ∈ u_ws RX12 TX12 53, w ∈ lw_good := lw_cn (lw_h6 76 rfl rfl) (lw_cn (lw_h6 78 rfl rfl) (lw_cn (lw_h6 80 rfl rfl) (lw_cn (lw_h6 82 rfl rfl) (lw_cn (lw_h6 84 rfl rfl) (lw_cn (lw_h6 86 rfl rfl) (lw_cn (lw_h6 88 rfl rfl) (lw_cn (lw_h6 90 rfl rfl) (lw_cn (lw_h6 92 rfl rfl) (lw_cn (lw_h6 94 rfl rfl) (lw_cn (lw_h6 96 rfl rfl) (lw_cn (lw_h6 98 rfl rfl) (lw_cn (lw_h6 100 rfl rfl) (lw_cn (lw_h6 102 rfl rfl) (lw_cn (lw_h6 104 rfl rfl) (lw_cn (lw_h6 106 rfl rfl) (lw_cn (lw_h6 108 rfl rfl) (lw_cn (lw_h6 110 rfl rfl) (lw_cn (lw_h6 112 rfl rfl) (lw_cn (lw_h6 114 rfl rfl) (lw_cn (lw_h6 116 rfl rfl) (lw_cn (lw_h6 118 rfl rfl) (lw_cn (lw_h6 120 rfl rfl) (lw_cn (lw_h6 122 rfl rfl) (lw_cn (lw_h6 124 rfl rfl) (lw_cn (lw_h6 126 rfl rfl) (lw_cn (lw_h6 128 rfl rfl) (lw_cn (lw_h6 130 rfl rfl) (lw_cn (lw_h6 132 rfl rfl) (lw_cn (lw_h6 134 rfl rfl) (lw_cn (lw_h6 136 rfl rfl) (lw_cn (lw_h6 138 rfl rfl) (lw_cn (lw_h6 140 rfl rfl) (lw_cn (lw_h6 142 rfl rfl) (lw_cn (lw_h6 144 rfl rfl) (lw_cn (lw_h6 146 rfl rfl) (lw_cn (lw_h6 148 rfl rfl) (lw_cn (lw_h6 150 rfl rfl) (lw_cn (lw_h6 152 rfl rfl) (lw_cn (lw_h6 154 rfl rfl) (lw_cn (lw_h6 156 rfl rfl) (lw_cn (lw_h6 158 rfl rfl) (lw_cn (lw_h6 160 rfl rfl) (lw_cn (lw_h6 162 rfl rfl) (lw_cn (lw_h6 164 rfl rfl) (lw_cn (lw_h6 166 rfl rfl) (lw_cn (lw_h6 168 rfl rfl) (lw_cn (lw_h6 170 rfl rfl) (lw_cn (lw_h6 172 rfl rfl) (lw_cn (lw_h6 174 rfl rfl) (lw_cn (lw_h6 176 rfl rfl) (lw_cn (lw_h6 178 rfl rfl) (lw_cn (lw_h6 180 rfl rfl) (lw_nl)))))))))))))))))))))))))))))))))))))))))))))))))))))
set_option maxRecDepth 100000 in
theorem kX11_init : KI yX11_init cX11_init 2 none 0 := ⟨⟨rfl, lw_h1 30 rfl rfl⟩, ⟨in_X11, lw_h1 31 rfl rfl, ⟨nh_RX11.1, nh_RX11.2, pd_0⟩⟩⟩
set_option maxRecDepth 100000 in
theorem kX9_init : KI yX9_init cX9_init 1 none 0 := ⟨⟨rfl, lw_h1 38 rfl rfl⟩, ⟨in_X9, lw_h1 39 rfl rfl, ⟨nh_RX9.1, nh_RX9.2, pd_0⟩⟩⟩
set_option maxRecDepth 100000 in
theorem kX8_init : KI yX8_init cX8_init 1 none 0 := ⟨⟨rfl, lw_h1 62 rfl rfl⟩, ⟨in_X8, lw_h1 63 rfl rfl, ⟨nh_RX8.1, nh_RX8.2, pd_0⟩⟩⟩
set_option maxRecDepth 100000 in
theorem kX6_init : KI yX6_init cX6_init 1 none 0 := ⟨⟨rfl, lw_h1 87 rfl rfl⟩, ⟨in_X6, lw_h1 88 rfl rfl, ⟨nh_RX6.1, nh_RX6.2, pd_0⟩⟩⟩
set_option maxRecDepth 100000 in
theorem kX10_init : KI yX10_init cX10_init 2 none 1 := ⟨⟨rfl, lw_h1 156 rfl rfl⟩, ⟨in_X10, lw_h1 157 rfl rfl, ⟨nh_RX10.1, nh_RX10.2, pd_1⟩⟩⟩
set_option maxRecDepth 100000 in
theorem kX1_init : KI yX1_init cX1_init 2 none 0 := ⟨⟨rfl, lw_h1 185 rfl rfl⟩, ⟨in_X1, lw_h1 186 rfl rfl, ⟨nh_RX1.1, nh_RX1.2, pd_0⟩⟩⟩
set_option maxRecDepth 100000 in
theorem kX4_init : KI yX4_init cX4_init 1 none 0 := ⟨⟨rfl, lw_h1 205 rfl rfl⟩, ⟨in_X4, lw_h1 206 rfl rfl, ⟨nh_RX4.1, nh_RX4.2, pd_0⟩⟩⟩
set_option maxRecDepth 100000 in
theorem kX7_init : KI yX7_init cX7_init 1 none 0 := ⟨⟨rfl, lw_h1 222 rfl rfl⟩, ⟨in_X7, lw_h1 223 rfl rfl, ⟨nh_RX7.1, nh_RX7.2, pd_0⟩⟩⟩
set_option maxRecDepth 100000 in
theorem kX3_init : KI yX3_init cX3_init 1 none 0 := ⟨⟨rfl, lw_h1 237 rfl rfl⟩, ⟨in_X3, lw_h1 238 rfl rfl, ⟨nh_RX3.1, nh_RX3.2, pd_0⟩⟩⟩
set_option maxRecDepth 100000 in
theorem kX0_init : KI yX0_init cX0_init 1 none 0 := ⟨⟨rfl, lw_h2 16 rfl rfl⟩, ⟨in_X0, lw_h2 17 rfl rfl, ⟨nh_RX0.1, nh_RX0.2, pd_0⟩⟩⟩
set_option maxRecDepth 100000 in
theorem kX5_init : KI yX5_init cX5_init 1 none 0 := ⟨⟨rfl, lw_h2 33 rfl rfl⟩, ⟨in_X5, lw_h2 34 rfl rfl, ⟨nh_RX5.1, nh_RX5.2, pd_0⟩⟩⟩
set_option maxRecDepth 100000 in
theorem kX2_init : KI yX2_init cX2_init 1 none 0 := ⟨⟨rfl, lw_h2 52 rfl rfl⟩, ⟨in_X2, lw_h2 53 rfl rfl, ⟨nh_RX2.1, nh_RX2.2, pd_0⟩⟩⟩
set_option maxRecDepth 100000 in
theorem kX2_becomePlain : KV yX2_becomePlain cX2_becomePlain 1 none 0 := ⟨⟨lw_h2 75 rfl rfl, lw_h2 76 rfl rfl⟩, ⟨in_X2, lw_h2 77 rfl rfl, ⟨nh_RX2.1, nh_RX2.2, pd_0⟩⟩⟩
set_option maxRecDepth 100000 in
theorem kX2_clear : KV yX2_clear cX2_clear 1 none 0 := ⟨⟨lw_h2 79 rfl rfl, lw_h2 80 rfl rfl⟩, ⟨in_X2, lw_h2 81 rfl rfl, ⟨nh_RX2.1, nh_RX2.2, pd_0⟩⟩⟩
set_option maxRecDepth 100000 in
theorem kX2_add : KV yX2_add cX2_add 3 none 2 := ⟨⟨lw_h2 83 rfl rfl, lw_h2 84 rfl rfl⟩, ⟨in_X2, lw_h2 85 rfl rfl, ⟨nh_RX2.1, nh_RX2.2, pd_2⟩⟩⟩
set_option maxRecDepth 100000 in
theorem kX2_addLetter : KV yX2_addLetter cX2_addLetter 2 none 1 := ⟨⟨lw_h2 87 rfl rfl, lw_h2 88 rfl rfl⟩, ⟨in_X2, lw_h2 89 rfl rfl, ⟨nh_RX2.1, nh_RX2.2, pd_3⟩⟩⟩
set_option maxRecDepth 100000 in
theorem kX11_sign : KV yX11_sign cX11_sign 2 (some .int) 1 := ⟨⟨lw_h2 146 rfl rfl, lw_h2 147 rfl rfl⟩, ⟨in_X11, lw_h2 148 rfl rfl, ⟨nh_RX11.1, nh_RX11.2, pd_4⟩⟩⟩
set_option maxRecDepth 100000 in
theorem kX9_addFour : KV yX9_addFour cX9_addFour 3 (some .boolean) 1 := ⟨⟨lw_h2 150 rfl rfl, lw_h2 151 rfl rfl⟩, ⟨in_X9, lw_h2 152 rfl rfl, ⟨nh_RX9.1, nh_RX9.2, pd_5⟩⟩⟩
set_option maxRecDepth 100000 in
theorem kX11_end : KV yX11_end cX11_end 2 (some .boolean) 1 := ⟨⟨lw_h2 154 rfl rfl, lw_h2 155 rfl rfl⟩, ⟨in_X11, lw_h2 156 rfl rfl, ⟨nh_RX11.1, nh_RX11.2, pd_5⟩⟩⟩
set_option maxRecDepth 100000 in
theorem kX9_cutTo : KV yX9_cutTo cX9_cutTo 2 (some .boolean) 1 := ⟨⟨lw_h2 158 rfl rfl, lw_h2 159 rfl rfl⟩, ⟨in_X9, lw_h2 160 rfl rfl, ⟨nh_RX9.1, nh_RX9.2, pd_5⟩⟩⟩
set_option maxRecDepth 100000 in
theorem kX11_avenue : KV yX11_avenue cX11_avenue 3 (some .int) 0 := ⟨⟨lw_h2 162 rfl rfl, lw_h2 163 rfl rfl⟩, ⟨in_X11, lw_h2 164 rfl rfl, ⟨nh_RX11.1, nh_RX11.2, pd_6⟩⟩⟩
set_option maxRecDepth 100000 in
theorem kX11_avenueFault : KV yX11_avenueFault cX11_avenueFault 3 (some .int) 0 := ⟨⟨lw_h2 167 rfl rfl, lw_gi 0 rfl rfl⟩, ⟨in_X11, lw_h2 168 rfl rfl, ⟨nh_RX11.1, nh_RX11.2, pd_6⟩⟩⟩
set_option maxRecDepth 100000 in
theorem kX9_signAt : KV yX9_signAt cX9_signAt 2 (some .int) 1 := ⟨⟨lw_h2 170 rfl rfl, lw_h2 171 rfl rfl⟩, ⟨in_X9, lw_h2 172 rfl rfl, ⟨nh_RX9.1, nh_RX9.2, pd_4⟩⟩⟩
set_option maxRecDepth 100000 in
theorem kX8_become : KV yX8_become cX8_become 3 none 1 := ⟨⟨lw_h2 174 rfl rfl, lw_h2 175 rfl rfl⟩, ⟨in_X8, lw_h2 176 rfl rfl, ⟨nh_RX8.1, nh_RX8.2, pd_7⟩⟩⟩
set_option maxRecDepth 100000 in
theorem kX6_clear : KV yX6_clear cX6_clear 1 none 0 := ⟨⟨lw_h2 179 rfl rfl, lw_h2 180 rfl rfl⟩, ⟨in_X6, lw_h2 181 rfl rfl, ⟨nh_RX6.1, nh_RX6.2, pd_0⟩⟩⟩
set_option maxRecDepth 100000 in
theorem kX1_clear : KV yX1_clear cX1_clear 1 none 0 := ⟨⟨lw_h2 183 rfl rfl, lw_h2 184 rfl rfl⟩, ⟨in_X1, lw_h2 185 rfl rfl, ⟨nh_RX1.1, nh_RX1.2, pd_0⟩⟩⟩
set_option maxRecDepth 100000 in
theorem kX11_forgetKept : KV yX11_forgetKept cX11_forgetKept 2 none 0 := ⟨⟨lw_h2 188 rfl rfl, lw_gi 1 rfl rfl⟩, ⟨in_X11, lw_h2 189 rfl rfl, ⟨nh_RX11.1, nh_RX11.2, pd_0⟩⟩⟩
set_option maxRecDepth 100000 in
theorem kX9_clear : KV yX9_clear cX9_clear 1 none 0 := ⟨⟨lw_h2 191 rfl rfl, lw_h2 192 rfl rfl⟩, ⟨in_X9, lw_h2 193 rfl rfl, ⟨nh_RX9.1, nh_RX9.2, pd_0⟩⟩⟩
set_option maxRecDepth 100000 in
theorem kX11_hearses : KV yX11_hearses cX11_hearses 2 (some .int) 0 := ⟨⟨lw_h2 195 rfl rfl, lw_h2 196 rfl rfl⟩, ⟨in_X11, lw_h2 197 rfl rfl, ⟨nh_RX11.1, nh_RX11.2, pd_6⟩⟩⟩
set_option maxRecDepth 100000 in
theorem kX9_isEmpty : KV yX9_isEmpty cX9_isEmpty 1 (some .boolean) 0 := ⟨⟨lw_h2 199 rfl rfl, lw_h2 200 rfl rfl⟩, ⟨in_X9, lw_h2 201 rfl rfl, ⟨nh_RX9.1, nh_RX9.2, pd_8⟩⟩⟩
set_option maxRecDepth 100000 in
theorem kX11_readLines : KV yX11_readLines cX11_readLines 4 (some .int) 1 := ⟨⟨lw_h2 204 rfl rfl, lw_gi 2 rfl rfl⟩, ⟨in_X11, lw_h2 205 rfl rfl, ⟨nh_RX11.1, nh_RX11.2, pd_9⟩⟩⟩
set_option maxRecDepth 100000 in
theorem kX6_copyFrom : KV yX6_copyFrom cX6_copyFrom 2 none 1 := ⟨⟨lw_h2 207 rfl rfl, lw_h2 208 rfl rfl⟩, ⟨in_X6, lw_h2 209 rfl rfl, ⟨nh_RX6.1, nh_RX6.2, pd_10⟩⟩⟩
set_option maxRecDepth 100000 in
theorem kX9_open : KV yX9_open cX9_open 2 none 1 := ⟨⟨lw_h2 214 rfl rfl, lw_h2 215 rfl rfl⟩, ⟨in_X9, lw_h2 216 rfl rfl, ⟨nh_RX9.1, nh_RX9.2, pd_3⟩⟩⟩
set_option maxRecDepth 100000 in
theorem kX11_readHearse : KV yX11_readHearse cX11_readHearse 2 (some .boolean) 0 := ⟨⟨lw_h2 222 rfl rfl, lw_gi 3 rfl rfl⟩, ⟨in_X11, lw_h2 223 rfl rfl, ⟨nh_RX11.1, nh_RX11.2, pd_8⟩⟩⟩
set_option maxRecDepth 100000 in
theorem kX11_readCell : KV yX11_readCell cX11_readCell 2 (some .int) 0 := ⟨⟨lw_h2 226 rfl rfl, lw_gi 4 rfl rfl⟩, ⟨in_X11, lw_h2 227 rfl rfl, ⟨nh_RX11.1, nh_RX11.2, pd_6⟩⟩⟩
set_option maxRecDepth 100000 in
theorem kX9_number : KV yX9_number cX9_number 5 (some .int) 1 := ⟨⟨lw_h2 229 rfl rfl, lw_h2 230 rfl rfl⟩, ⟨in_X9, lw_h2 231 rfl rfl, ⟨nh_RX9.1, nh_RX9.2, pd_4⟩⟩⟩
set_option maxRecDepth 100000 in
theorem kX9_digit : KV yX9_digit cX9_digit 2 (some .int) 0 := ⟨⟨lw_h2 233 rfl rfl, lw_h2 234 rfl rfl⟩, ⟨in_X9, lw_h2 235 rfl rfl, ⟨nh_RX9.1, nh_RX9.2, pd_6⟩⟩⟩
set_option maxRecDepth 100000 in
theorem kX9_look : KV yX9_look cX9_look 1 (some .int) 0 := ⟨⟨lw_h2 237 rfl rfl, lw_h2 238 rfl rfl⟩, ⟨in_X9, lw_h2 239 rfl rfl, ⟨nh_RX9.1, nh_RX9.2, pd_6⟩⟩⟩
set_option maxRecDepth 100000 in
theorem kX9_pass : KV yX9_pass cX9_pass 1 none 0 := ⟨⟨lw_h3 1 rfl rfl, lw_h3 2 rfl rfl⟩, ⟨in_X9, lw_h3 3 rfl rfl, ⟨nh_RX9.1, nh_RX9.2, pd_0⟩⟩⟩
set_option maxRecDepth 100000 in
theorem kX8_gate : KV yX8_gate cX8_gate 1 (some .int) 0 := ⟨⟨lw_h3 5 rfl rfl, lw_h3 6 rfl rfl⟩, ⟨in_X8, lw_h3 7 rfl rfl, ⟨nh_RX8.1, nh_RX8.2, pd_6⟩⟩⟩
set_option maxRecDepth 100000 in
theorem kX9_back : KV yX9_back cX9_back 1 none 0 := ⟨⟨lw_h3 9 rfl rfl, lw_h3 10 rfl rfl⟩, ⟨in_X9, lw_h3 11 rfl rfl, ⟨nh_RX9.1, nh_RX9.2, pd_0⟩⟩⟩
set_option maxRecDepth 100000 in
theorem kX6_hearseOn : KV yX6_hearseOn cX6_hearseOn 3 (some .int) 1 := ⟨⟨lw_h3 13 rfl rfl, lw_h3 14 rfl rfl⟩, ⟨in_X6, lw_h3 15 rfl rfl, ⟨nh_RX6.1, nh_RX6.2, pd_4⟩⟩⟩
set_option maxRecDepth 100000 in
theorem kX6_addHearse : KV yX6_addHearse cX6_addHearse 2 none 1 := ⟨⟨lw_h3 17 rfl rfl, lw_h3 18 rfl rfl⟩, ⟨in_X6, lw_h3 19 rfl rfl, ⟨nh_RX6.1, nh_RX6.2, pd_3⟩⟩⟩
set_option maxRecDepth 100000 in
theorem kX11_readMourner : KV yX11_readMourner cX11_readMourner 3 (some .boolean) 0 := ⟨⟨lw_h3 22 rfl rfl, lw_gi 5 rfl rfl⟩, ⟨in_X11, lw_h3 23 rfl rfl, ⟨nh_RX11.1, nh_RX11.2, pd_8⟩⟩⟩
set_option maxRecDepth 100000 in
theorem kX6_addMourner : KV yX6_addMourner cX6_addMourner 3 none 2 := ⟨⟨lw_h3 27 rfl rfl, lw_h3 28 rfl rfl⟩, ⟨in_X6, lw_h3 29 rfl rfl, ⟨nh_RX6.1, nh_RX6.2, pd_2⟩⟩⟩
set_option maxRecDepth 100000 in
theorem kX9_skip : KV yX9_skip cX9_skip 2 (some .boolean) 1 := ⟨⟨lw_h3 31 rfl rfl, lw_h3 32 rfl rfl⟩, ⟨in_X9, lw_h3 33 rfl rfl, ⟨nh_RX9.1, nh_RX9.2, pd_5⟩⟩⟩
set_option maxRecDepth 100000 in
theorem kX9_isWhole : KV yX9_isWhole cX9_isWhole 1 (some .boolean) 0 := ⟨⟨lw_h3 35 rfl rfl, lw_h3 36 rfl rfl⟩, ⟨in_X9, lw_h3 37 rfl rfl, ⟨nh_RX9.1, nh_RX9.2, pd_8⟩⟩⟩
set_option maxRecDepth 100000 in
theorem kX11_mourners : KV yX11_mourners cX11_mourners 2 (some .int) 0 := ⟨⟨lw_h3 39 rfl rfl, lw_h3 40 rfl rfl⟩, ⟨in_X11, lw_h3 41 rfl rfl, ⟨nh_RX11.1, nh_RX11.2, pd_6⟩⟩⟩
set_option maxRecDepth 100000 in
theorem kX11_weather : KV yX11_weather cX11_weather 3 (some .int) 0 := ⟨⟨lw_h3 43 rfl rfl, lw_h3 44 rfl rfl⟩, ⟨in_X11, lw_h3 45 rfl rfl, ⟨nh_RX11.1, nh_RX11.2, pd_6⟩⟩⟩
set_option maxRecDepth 100000 in
theorem kX11_weatherFault : KV yX11_weatherFault cX11_weatherFault 3 (some .int) 0 := ⟨⟨lw_h3 48 rfl rfl, lw_gi 6 rfl rfl⟩, ⟨in_X11, lw_h3 49 rfl rfl, ⟨nh_RX11.1, nh_RX11.2, pd_6⟩⟩⟩
set_option maxRecDepth 100000 in
theorem kX8_takeWeather : KV yX8_takeWeather cX8_takeWeather 3 none 1 := ⟨⟨lw_h3 51 rfl rfl, lw_h3 52 rfl rfl⟩, ⟨in_X8, lw_h3 53 rfl rfl, ⟨nh_RX8.1, nh_RX8.2, pd_7⟩⟩⟩
set_option maxRecDepth 100000 in
theorem kX11_rule : KV yX11_rule cX11_rule 3 (some .int) 0 := ⟨⟨lw_h3 55 rfl rfl, lw_h3 56 rfl rfl⟩, ⟨in_X11, lw_h3 57 rfl rfl, ⟨nh_RX11.1, nh_RX11.2, pd_6⟩⟩⟩
set_option maxRecDepth 100000 in
theorem kX5_read : KV yX5_read cX5_read 4 (some .int) 2 := ⟨⟨lw_h3 59 rfl rfl, lw_h3 60 rfl rfl⟩, ⟨in_X5, lw_h3 61 rfl rfl, ⟨nh_RX5.1, nh_RX5.2, pd_12⟩⟩⟩
set_option maxRecDepth 100000 in
theorem kX9_isRead : KV yX9_isRead cX9_isRead 1 (some .boolean) 0 := ⟨⟨lw_h3 67 rfl rfl, lw_h3 68 rfl rfl⟩, ⟨in_X9, lw_h3 69 rfl rfl, ⟨nh_RX9.1, nh_RX9.2, pd_8⟩⟩⟩
set_option maxRecDepth 100000 in
theorem kX5_takeThing : KV yX5_takeThing cX5_takeThing 6 (some .boolean) 2 := ⟨⟨lw_h3 72 rfl rfl, lw_gi 7 rfl rfl⟩, ⟨in_X5, lw_h3 73 rfl rfl, ⟨nh_RX5.1, nh_RX5.2, pd_13⟩⟩⟩
set_option maxRecDepth 100000 in
theorem kX5_hold : KV yX5_hold cX5_hold 2 none 1 := ⟨⟨lw_h3 79 rfl rfl, lw_gi 8 rfl rfl⟩, ⟨in_X5, lw_h3 80 rfl rfl, ⟨nh_RX5.1, nh_RX5.2, pd_3⟩⟩⟩
set_option maxRecDepth 100000 in
theorem kJ0_indexOf_0f7a4 : KV yJ0_indexOf_0f7a4 cJ0_indexOf_0f7a4 2 (some .int) 1 := ⟨⟨lw_h3 83 rfl rfl, lw_h3 84 rfl rfl⟩, ⟨in_J0, lw_h3 85 rfl rfl, ⟨nh_RJ0.1, nh_RJ0.2, pd_4⟩⟩⟩
set_option maxRecDepth 100000 in
theorem kJ0_indexOf_7cf53 : KV yJ0_indexOf_7cf53 cJ0_indexOf_7cf53 3 (some .int) 2 := ⟨⟨lw_h3 87 rfl rfl, lw_h3 88 rfl rfl⟩, ⟨in_J0, lw_h3 89 rfl rfl, ⟨nh_RJ0.1, nh_RJ0.2, pd_11⟩⟩⟩
set_option maxRecDepth 100000 in
theorem kJ0_isLatin1_aae02 : KV yJ0_isLatin1_aae02 cJ0_isLatin1_aae02 1 (some .boolean) 0 := ⟨⟨lw_h3 91 rfl rfl, lw_h3 92 rfl rfl⟩, ⟨in_J0, lw_h3 93 rfl rfl, ⟨nh_RJ0.1, nh_RJ0.2, pd_8⟩⟩⟩
set_option maxRecDepth 100000 in
theorem kJ0_length_8abf5 : KV yJ0_length_8abf5 cJ0_length_8abf5 1 (some .int) 0 := ⟨⟨lw_h3 97 rfl rfl, lw_h3 98 rfl rfl⟩, ⟨in_J0, lw_h3 99 rfl rfl, ⟨nh_RJ0.1, nh_RJ0.2, pd_6⟩⟩⟩
set_option maxRecDepth 100000 in
theorem kJ0_coder_7d493 : KV yJ0_coder_7d493 cJ0_coder_7d493 1 (some .byte) 0 := ⟨⟨lw_h3 101 rfl rfl, lw_h3 102 rfl rfl⟩, ⟨in_J0, lw_h3 103 rfl rfl, ⟨nh_RJ0.1, nh_RJ0.2, pd_14⟩⟩⟩
set_option maxRecDepth 100000 in
theorem kJ1_indexOf_4cfef : KS yJ1_indexOf_4cfef cJ1_indexOf_4cfef 4 (some .int) 4 := ⟨lw_h3 105 rfl rfl, ⟨in_J1, lw_h3 106 rfl rfl, ⟨nh_RJ1.1, nh_RJ1.2, pd_15⟩⟩⟩
set_option maxRecDepth 100000 in
theorem kJ1_canEncode_9a6ad : KS yJ1_canEncode_9a6ad cJ1_canEncode_9a6ad 1 (some .boolean) 1 := ⟨lw_h3 108 rfl rfl, ⟨in_J1, lw_h3 109 rfl rfl, ⟨nh_RJ1.1, nh_RJ1.2, pd_5⟩⟩⟩
set_option maxRecDepth 100000 in
theorem kJ1_indexOfChar_4cfef : KS yJ1_indexOfChar_4cfef cJ1_indexOfChar_4cfef 6 (some .int) 4 := ⟨lw_h3 115 rfl rfl, ⟨in_J1, lw_h3 116 rfl rfl, ⟨nh_RJ1.1, nh_RJ1.2, pd_15⟩⟩⟩
set_option maxRecDepth 100000 in
theorem kJ0_checkBoundsBeginEnd_23922 : KS yJ0_checkBoundsBeginEnd_23922 cJ0_checkBoundsBeginEnd_23922 3 none 3 := ⟨lw_h3 133 rfl rfl, ⟨in_J0, lw_h3 134 rfl rfl, ⟨nh_RJ0.1, nh_RJ0.2, pd_18⟩⟩⟩
set_option maxRecDepth 100000 in
theorem kJ3_checkFromToIndex_8c36e : KS yJ3_checkFromToIndex_8c36e cJ3_checkFromToIndex_8c36e 4 (some .int) 4 := ⟨lw_h3 138 rfl rfl, ⟨in_J3, lw_h3 139 rfl rfl, ⟨nh_RJ3.1, nh_RJ3.2, pd_19⟩⟩⟩
set_option maxRecDepth 100000 in
theorem kX5_takeSign : KV yX5_takeSign cX5_takeSign 5 (some .boolean) 2 := ⟨⟨lw_h3 170 rfl rfl, lw_gi 9 rfl rfl⟩, ⟨in_X5, lw_h3 171 rfl rfl, ⟨nh_RX5.1, nh_RX5.2, pd_13⟩⟩⟩
set_option maxRecDepth 100000 in
theorem kX5_bindingOf : KS yX5_bindingOf cX5_bindingOf 1 (some .int) 1 := ⟨lw_h3 173 rfl rfl, ⟨in_X5, lw_h3 174 rfl rfl, ⟨nh_RX5.1, nh_RX5.2, pd_4⟩⟩⟩
set_option maxRecDepth 100000 in
theorem kX5_release : KV yX5_release cX5_release 3 none 2 := ⟨⟨lw_h3 177 rfl rfl, lw_gi 10 rfl rfl⟩, ⟨in_X5, lw_h3 178 rfl rfl, ⟨nh_RX5.1, nh_RX5.2, pd_22⟩⟩⟩
set_option maxRecDepth 100000 in
theorem kX5_latestBinding : KV yX5_latestBinding cX5_latestBinding 1 (some .int) 0 := ⟨⟨lw_h3 181 rfl rfl, lw_gi 11 rfl rfl⟩, ⟨in_X5, lw_h3 182 rfl rfl, ⟨nh_RX5.1, nh_RX5.2, pd_6⟩⟩⟩
set_option maxRecDepth 100000 in
theorem kX11_sheet : KV yX11_sheet cX11_sheet 8 (some .int) 4 := ⟨⟨lw_h3 186 rfl rfl, lw_h3 187 rfl rfl⟩, ⟨in_X11, lw_h3 188 rfl rfl, ⟨nh_RX11.1, nh_RX11.2, pd_23⟩⟩⟩
set_option maxRecDepth 100000 in
theorem kX6_hasEnded : KV yX6_hasEnded cX6_hasEnded 2 (some .boolean) 1 := ⟨⟨lw_h3 190 rfl rfl, lw_h3 191 rfl rfl⟩, ⟨in_X6, lw_h3 192 rfl rfl, ⟨nh_RX6.1, nh_RX6.2, pd_5⟩⟩⟩
set_option maxRecDepth 100000 in
theorem kX11_cellOfEntry : KV yX11_cellOfEntry cX11_cellOfEntry 4 (some .int) 2 := ⟨⟨lw_h3 195 rfl rfl, lw_gi 12 rfl rfl⟩, ⟨in_X11, lw_h3 196 rfl rfl, ⟨nh_RX11.1, nh_RX11.2, pd_11⟩⟩⟩
set_option maxRecDepth 100000 in
theorem kX8_putOnStreet : KV yX8_putOnStreet cX8_putOnStreet 2 (some .int) 1 := ⟨⟨lw_h3 198 rfl rfl, lw_h3 199 rfl rfl⟩, ⟨in_X8, lw_h3 200 rfl rfl, ⟨nh_RX8.1, nh_RX8.2, pd_4⟩⟩⟩
set_option maxRecDepth 100000 in
theorem kX11_steps : KV yX11_steps cX11_steps 2 (some .int) 1 := ⟨⟨lw_h3 205 rfl rfl, lw_h3 206 rfl rfl⟩, ⟨in_X11, lw_h3 207 rfl rfl, ⟨nh_RX11.1, nh_RX11.2, pd_4⟩⟩⟩
set_option maxRecDepth 100000 in
theorem kX10_walk : KV yX10_walk cX10_walk 5 none 3 := ⟨⟨lw_h3 209 rfl rfl, lw_h3 210 rfl rfl⟩, ⟨in_X10, lw_h3 211 rfl rfl, ⟨nh_RX10.1, nh_RX10.2, pd_24⟩⟩⟩
set_option maxRecDepth 100000 in
theorem kX10_forgetTallies : KV yX10_forgetTallies cX10_forgetTallies 2 none 0 := ⟨⟨lw_h3 213 rfl rfl, lw_h3 214 rfl rfl⟩, ⟨in_X10, lw_h3 215 rfl rfl, ⟨nh_RX10.1, nh_RX10.2, pd_0⟩⟩⟩
set_option maxRecDepth 100000 in
theorem kX10_advance : KV yX10_advance cX10_advance 6 none 2 := ⟨⟨lw_h3 217 rfl rfl, lw_h3 218 rfl rfl⟩, ⟨in_X10, lw_h3 219 rfl rfl, ⟨nh_RX10.1, nh_RX10.2, pd_25⟩⟩⟩
set_option maxRecDepth 100000 in
theorem kX6_foremostBelow : KV yX6_foremostBelow cX6_foremostBelow 5 (some .int) 1 := ⟨⟨lw_h3 221 rfl rfl, lw_h3 222 rfl rfl⟩, ⟨in_X6, lw_h3 223 rfl rfl, ⟨nh_RX6.1, nh_RX6.2, pd_4⟩⟩⟩
set_option maxRecDepth 100000 in
theorem kX10_moveHearse : KV yX10_moveHearse cX10_moveHearse 6 none 3 := ⟨⟨lw_h3 226 rfl rfl, lw_gi 13 rfl rfl⟩, ⟨in_X10, lw_h3 227 rfl rfl, ⟨nh_RX10.1, nh_RX10.2, pd_24⟩⟩⟩
set_option maxRecDepth 100000 in
theorem kX2_observe : KV yX2_observe cX2_observe 4 none 3 := ⟨⟨lw_h3 229 rfl rfl, lw_h3 230 rfl rfl⟩, ⟨in_X2, lw_h3 231 rfl rfl, ⟨nh_RX2.1, nh_RX2.2, pd_26⟩⟩⟩
set_option maxRecDepth 100000 in
theorem kX2_uses : KV yX2_uses cX2_uses 2 (some .boolean) 1 := ⟨⟨lw_h3 234 rfl rfl, lw_gi 14 rfl rfl⟩, ⟨in_X2, lw_h3 235 rfl rfl, ⟨nh_RX2.1, nh_RX2.2, pd_5⟩⟩⟩
set_option maxRecDepth 100000 in
theorem kX6_freeAhead : KV yX6_freeAhead cX6_freeAhead 7 (some .int) 2 := ⟨⟨lw_h3 238 rfl rfl, lw_h3 239 rfl rfl⟩, ⟨in_X6, lw_h4 0 rfl rfl, ⟨nh_RX6.1, nh_RX6.2, pd_11⟩⟩⟩
set_option maxRecDepth 100000 in
theorem kX8_isCorner : KV yX8_isCorner cX8_isCorner 2 (some .boolean) 1 := ⟨⟨lw_h4 2 rfl rfl, lw_h4 3 rfl rfl⟩, ⟨in_X8, lw_h4 4 rfl rfl, ⟨nh_RX8.1, nh_RX8.2, pd_5⟩⟩⟩
set_option maxRecDepth 100000 in
theorem kX8_weatherAt : KV yX8_weatherAt cX8_weatherAt 2 (some .int) 1 := ⟨⟨lw_h4 6 rfl rfl, lw_h4 7 rfl rfl⟩, ⟨in_X8, lw_h4 8 rfl rfl, ⟨nh_RX8.1, nh_RX8.2, pd_4⟩⟩⟩
set_option maxRecDepth 100000 in
theorem kX6_bitsOf : KV yX6_bitsOf cX6_bitsOf 5 (some .int) 2 := ⟨⟨lw_h4 10 rfl rfl, lw_h4 11 rfl rfl⟩, ⟨in_X6, lw_h4 12 rfl rfl, ⟨nh_RX6.1, nh_RX6.2, pd_27⟩⟩⟩
set_option maxRecDepth 100000 in
theorem kJ6_bitCount_0f7a4 : KS yJ6_bitCount_0f7a4 cJ6_bitCount_0f7a4 1 (some .int) 1 := ⟨lw_h4 14 rfl rfl, ⟨in_J6, lw_h4 15 rfl rfl, ⟨nh_RJ6.1, nh_RJ6.2, pd_4⟩⟩⟩
set_option maxRecDepth 100000 in
theorem kX6_takenCells : KV yX6_takenCells cX6_takenCells 3 (some .int) 0 := ⟨⟨lw_h4 20 rfl rfl, lw_h4 21 rfl rfl⟩, ⟨in_X6, lw_h4 22 rfl rfl, ⟨nh_RX6.1, nh_RX6.2, pd_6⟩⟩⟩
set_option maxRecDepth 100000 in
theorem kX2_pace : KV yX2_pace cX2_pace 4 (some .int) 0 := ⟨⟨lw_h4 24 rfl rfl, lw_h4 25 rfl rfl⟩, ⟨in_X2, lw_h4 26 rfl rfl, ⟨nh_RX2.1, nh_RX2.2, pd_6⟩⟩⟩
set_option maxRecDepth 100000 in
theorem kX2_join : KS yX2_join cX2_join 3 (some .int) 3 := ⟨lw_h4 28 rfl rfl, ⟨in_X2, lw_h4 29 rfl rfl, ⟨nh_RX2.1, nh_RX2.2, pd_28⟩⟩⟩
set_option maxRecDepth 100000 in
theorem kX10_goal : KV yX10_goal cX10_goal 8 (some .int) 3 := ⟨⟨lw_h4 34 rfl rfl, lw_gi 15 rfl rfl⟩, ⟨in_X10, lw_h4 35 rfl rfl, ⟨nh_RX10.1, nh_RX10.2, pd_28⟩⟩⟩
set_option maxRecDepth 100000 in
theorem kX6_arrive : KV yX6_arrive cX6_arrive 2 none 1 := ⟨⟨lw_h4 39 rfl rfl, lw_h4 40 rfl rfl⟩, ⟨in_X6, lw_h4 41 rfl rfl, ⟨nh_RX6.1, nh_RX6.2, pd_3⟩⟩⟩
set_option maxRecDepth 100000 in
theorem kX10_moveMourner : KV yX10_moveMourner cX10_moveMourner 7 none 2 := ⟨⟨lw_h4 45 rfl rfl, lw_gi 16 rfl rfl⟩, ⟨in_X10, lw_h4 46 rfl rfl, ⟨nh_RX10.1, nh_RX10.2, pd_29⟩⟩⟩
set_option maxRecDepth 100000 in
theorem kX6_hasArrived : KV yX6_hasArrived cX6_hasArrived 2 (some .boolean) 1 := ⟨⟨lw_h4 48 rfl rfl, lw_h4 49 rfl rfl⟩, ⟨in_X6, lw_h4 50 rfl rfl, ⟨nh_RX6.1, nh_RX6.2, pd_5⟩⟩⟩
set_option maxRecDepth 100000 in
theorem kX6_endAt : KV yX6_endAt cX6_endAt 3 none 2 := ⟨⟨lw_h4 52 rfl rfl, lw_h4 53 rfl rfl⟩, ⟨in_X6, lw_h4 54 rfl rfl, ⟨nh_RX6.1, nh_RX6.2, pd_2⟩⟩⟩
set_option maxRecDepth 100000 in
theorem kX6_nearestTo : KV yX6_nearestTo cX6_nearestTo 7 (some .int) 1 := ⟨⟨lw_h4 56 rfl rfl, lw_h4 57 rfl rfl⟩, ⟨in_X6, lw_h4 58 rfl rfl, ⟨nh_RX6.1, nh_RX6.2, pd_4⟩⟩⟩
set_option maxRecDepth 100000 in
theorem kX4_tellTwo : KV yX4_tellTwo cX4_tellTwo 5 none 2 := ⟨⟨lw_h4 65 rfl rfl, lw_h4 66 rfl rfl⟩, ⟨in_X4, lw_h4 67 rfl rfl, ⟨nh_RX4.1, nh_RX4.2, pd_30⟩⟩⟩
set_option maxRecDepth 100000 in
theorem kX4_clear : KV yX4_clear cX4_clear 1 none 0 := ⟨⟨lw_h4 69 rfl rfl, lw_h4 70 rfl rfl⟩, ⟨in_X4, lw_h4 71 rfl rfl, ⟨nh_RX4.1, nh_RX4.2, pd_0⟩⟩⟩
set_option maxRecDepth 100000 in
theorem kX4_add : KV yX4_add cX4_add 3 none 1 := ⟨⟨lw_h4 73 rfl rfl, lw_h4 74 rfl rfl⟩, ⟨in_X4, lw_h4 75 rfl rfl, ⟨nh_RX4.1, nh_RX4.2, pd_31⟩⟩⟩
set_option maxRecDepth 100000 in
theorem kX11_undoable : KV yX11_undoable cX11_undoable 2 (some .int) 1 := ⟨⟨lw_h4 78 rfl rfl, lw_gi 17 rfl rfl⟩, ⟨in_X11, lw_h4 79 rfl rfl, ⟨nh_RX11.1, nh_RX11.2, pd_4⟩⟩⟩
set_option maxRecDepth 100000 in
theorem kX11_isDone : KS yX11_isDone cX11_isDone 1 (some .boolean) 1 := ⟨lw_h4 81 rfl rfl, ⟨in_X11, lw_h4 82 rfl rfl, ⟨nh_RX11.1, nh_RX11.2, pd_5⟩⟩⟩
set_option maxRecDepth 100000 in
theorem kX1_add : KV yX1_add cX1_add 2 none 1 := ⟨⟨lw_h4 84 rfl rfl, lw_h4 85 rfl rfl⟩, ⟨in_X1, lw_h4 86 rfl rfl, ⟨nh_RX1.1, nh_RX1.2, pd_10⟩⟩⟩
set_option maxRecDepth 100000 in
theorem kX11_turnsTo : KV yX11_turnsTo cX11_turnsTo 2 (some .int) 1 := ⟨⟨lw_h4 89 rfl rfl, lw_h4 90 rfl rfl⟩, ⟨in_X11, lw_h4 91 rfl rfl, ⟨nh_RX11.1, nh_RX11.2, pd_4⟩⟩⟩
set_option maxRecDepth 100000 in
theorem kX6_turn : KV yX6_turn cX6_turn 3 (some .int) 1 := ⟨⟨lw_h4 93 rfl rfl, lw_h4 94 rfl rfl⟩, ⟨in_X6, lw_h4 95 rfl rfl, ⟨nh_RX6.1, nh_RX6.2, pd_4⟩⟩⟩
set_option maxRecDepth 100000 in
theorem kX6_isMourner : KV yX6_isMourner cX6_isMourner 2 (some .boolean) 1 := ⟨⟨lw_h4 97 rfl rfl, lw_h4 98 rfl rfl⟩, ⟨in_X6, lw_h4 99 rfl rfl, ⟨nh_RX6.1, nh_RX6.2, pd_5⟩⟩⟩
set_option maxRecDepth 100000 in
theorem kX11_pushes : KV yX11_pushes cX11_pushes 3 (some .int) 2 := ⟨⟨lw_h4 103 rfl rfl, lw_h4 104 rfl rfl⟩, ⟨in_X11, lw_h4 105 rfl rfl, ⟨nh_RX11.1, nh_RX11.2, pd_11⟩⟩⟩
set_option maxRecDepth 100000 in
theorem kX6_shove : KV yX6_shove cX6_shove 4 (some .int) 3 := ⟨⟨lw_h4 107 rfl rfl, lw_h4 108 rfl rfl⟩, ⟨in_X6, lw_h4 109 rfl rfl, ⟨nh_RX6.1, nh_RX6.2, pd_32⟩⟩⟩
set_option maxRecDepth 100000 in
theorem kX11_swaps : KV yX11_swaps cX11_swaps 3 (some .int) 2 := ⟨⟨lw_h4 112 rfl rfl, lw_h4 113 rfl rfl⟩, ⟨in_X11, lw_h4 114 rfl rfl, ⟨nh_RX11.1, nh_RX11.2, pd_11⟩⟩⟩
set_option maxRecDepth 100000 in
theorem kX6_exchange : KV yX6_exchange cX6_exchange 4 (some .int) 2 := ⟨⟨lw_h4 116 rfl rfl, lw_h4 117 rfl rfl⟩, ⟨in_X6, lw_h4 118 rfl rfl, ⟨nh_RX6.1, nh_RX6.2, pd_11⟩⟩⟩
set_option maxRecDepth 100000 in
theorem kX6_isHearse : KV yX6_isHearse cX6_isHearse 2 (some .boolean) 1 := ⟨⟨lw_h4 120 rfl rfl, lw_h4 121 rfl rfl⟩, ⟨in_X6, lw_h4 122 rfl rfl, ⟨nh_RX6.1, nh_RX6.2, pd_5⟩⟩⟩
set_option maxRecDepth 100000 in
theorem kX11_hour : KV yX11_hour cX11_hour 5 (some .int) 0 := ⟨⟨lw_h4 124 rfl rfl, lw_h4 125 rfl rfl⟩, ⟨in_X11, lw_h4 126 rfl rfl, ⟨nh_RX11.1, nh_RX11.2, pd_6⟩⟩⟩
set_option maxRecDepth 100000 in
theorem kX11_hourFault : KV yX11_hourFault cX11_hourFault 2 (some .int) 0 := ⟨⟨lw_h4 129 rfl rfl, lw_gi 18 rfl rfl⟩, ⟨in_X11, lw_h4 130 rfl rfl, ⟨nh_RX11.1, nh_RX11.2, pd_6⟩⟩⟩
set_option maxRecDepth 100000 in
theorem kX11_passAct : KV yX11_passAct cX11_passAct 3 (some .boolean) 0 := ⟨⟨lw_h4 134 rfl rfl, lw_gi 19 rfl rfl⟩, ⟨in_X11, lw_h4 135 rfl rfl, ⟨nh_RX11.1, nh_RX11.2, pd_8⟩⟩⟩
set_option maxRecDepth 100000 in
theorem kX11_doAct : KV yX11_doAct cX11_doAct 3 (some .int) 0 := ⟨⟨lw_h4 139 rfl rfl, lw_gi 20 rfl rfl⟩, ⟨in_X11, lw_h4 140 rfl rfl, ⟨nh_RX11.1, nh_RX11.2, pd_6⟩⟩⟩
set_option maxRecDepth 100000 in
theorem kX11_undo : KV yX11_undo cX11_undo 1 (some .int) 0 := ⟨⟨lw_h4 142 rfl rfl, lw_h4 143 rfl rfl⟩, ⟨in_X11, lw_h4 144 rfl rfl, ⟨nh_RX11.1, nh_RX11.2, pd_6⟩⟩⟩
set_option maxRecDepth 100000 in
theorem kX1_takeBack : KV yX1_takeBack cX1_takeBack 2 (some .boolean) 1 := ⟨⟨lw_h4 146 rfl rfl, lw_h4 147 rfl rfl⟩, ⟨in_X1, lw_h4 148 rfl rfl, ⟨nh_RX1.1, nh_RX1.2, pd_33⟩⟩⟩
set_option maxRecDepth 100000 in
theorem kX11_line : KV yX11_line cX11_line 4 (some .int) 0 := ⟨⟨lw_h4 150 rfl rfl, lw_h4 151 rfl rfl⟩, ⟨in_X11, lw_h4 152 rfl rfl, ⟨nh_RX11.1, nh_RX11.2, pd_6⟩⟩⟩
set_option maxRecDepth 100000 in
theorem kX11_ahead : KV yX11_ahead cX11_ahead 3 (some .int) 1 := ⟨⟨lw_h4 157 rfl rfl, lw_h4 158 rfl rfl⟩, ⟨in_X11, lw_h4 159 rfl rfl, ⟨nh_RX11.1, nh_RX11.2, pd_4⟩⟩⟩
set_option maxRecDepth 100000 in
theorem kX11_arrives : KV yX11_arrives cX11_arrives 3 (some .int) 1 := ⟨⟨lw_h4 161 rfl rfl, lw_h4 162 rfl rfl⟩, ⟨in_X11, lw_h4 163 rfl rfl, ⟨nh_RX11.1, nh_RX11.2, pd_4⟩⟩⟩
set_option maxRecDepth 100000 in
theorem kX4_tellOne : KV yX4_tellOne cX4_tellOne 3 none 1 := ⟨⟨lw_h4 168 rfl rfl, lw_h4 169 rfl rfl⟩, ⟨in_X4, lw_h4 170 rfl rfl, ⟨nh_RX4.1, nh_RX4.2, pd_31⟩⟩⟩
set_option maxRecDepth 100000 in
theorem kX11_jam : KV yX11_jam cX11_jam 4 (some .int) 1 := ⟨⟨lw_h4 172 rfl rfl, lw_h4 173 rfl rfl⟩, ⟨in_X11, lw_h4 174 rfl rfl, ⟨nh_RX11.1, nh_RX11.2, pd_4⟩⟩⟩
set_option maxRecDepth 100000 in
theorem kX11_passes : KV yX11_passes cX11_passes 4 (some .int) 2 := ⟨⟨lw_h4 176 rfl rfl, lw_h4 177 rfl rfl⟩, ⟨in_X11, lw_h4 178 rfl rfl, ⟨nh_RX11.1, nh_RX11.2, pd_11⟩⟩⟩
set_option maxRecDepth 100000 in
theorem kX6_isAheadOf : KV yX6_isAheadOf cX6_isAheadOf 3 (some .boolean) 2 := ⟨⟨lw_h4 180 rfl rfl, lw_h4 181 rfl rfl⟩, ⟨in_X6, lw_h4 182 rfl rfl, ⟨nh_RX6.1, nh_RX6.2, pd_34⟩⟩⟩
set_option maxRecDepth 100000 in
theorem kX11_ends : KV yX11_ends cX11_ends 3 (some .int) 1 := ⟨⟨lw_h4 184 rfl rfl, lw_h4 185 rfl rfl⟩, ⟨in_X11, lw_h4 186 rfl rfl, ⟨nh_RX11.1, nh_RX11.2, pd_4⟩⟩⟩
set_option maxRecDepth 100000 in
theorem kX11_right : KV yX11_right cX11_right 2 (some .int) 0 := ⟨⟨lw_h4 190 rfl rfl, lw_h4 191 rfl rfl⟩, ⟨in_X11, lw_h4 192 rfl rfl, ⟨nh_RX11.1, nh_RX11.2, pd_6⟩⟩⟩
set_option maxRecDepth 100000 in
theorem kX11_rightOnesOfTrial : KV yX11_rightOnesOfTrial cX11_rightOnesOfTrial 2 (some .int) 1 := ⟨⟨lw_h4 195 rfl rfl, lw_gi 21 rfl rfl⟩, ⟨in_X11, lw_h4 196 rfl rfl, ⟨nh_RX11.1, nh_RX11.2, pd_35⟩⟩⟩
set_option maxRecDepth 100000 in
theorem kX10_toEnd : KV yX10_toEnd cX10_toEnd 6 none 2 := ⟨⟨lw_h4 198 rfl rfl, lw_h4 199 rfl rfl⟩, ⟨in_X10, lw_h4 200 rfl rfl, ⟨nh_RX10.1, nh_RX10.2, pd_25⟩⟩⟩
set_option maxRecDepth 100000 in
theorem kX2_period : KV yX2_period cX2_period 2 (some .int) 1 := ⟨⟨lw_h4 202 rfl rfl, lw_h4 203 rfl rfl⟩, ⟨in_X2, lw_h4 204 rfl rfl, ⟨nh_RX2.1, nh_RX2.2, pd_36⟩⟩⟩
set_option maxRecDepth 100000 in
theorem kX6_rightBits : KV yX6_rightBits cX6_rightBits 3 (some .int) 0 := ⟨⟨lw_h4 206 rfl rfl, lw_h4 207 rfl rfl⟩, ⟨in_X6, lw_h4 208 rfl rfl, ⟨nh_RX6.1, nh_RX6.2, pd_6⟩⟩⟩
set_option maxRecDepth 100000 in
theorem kX6_isRight : KV yX6_isRight cX6_isRight 2 (some .boolean) 1 := ⟨⟨lw_h4 210 rfl rfl, lw_h4 211 rfl rfl⟩, ⟨in_X6, lw_h4 212 rfl rfl, ⟨nh_RX6.1, nh_RX6.2, pd_5⟩⟩⟩
set_option maxRecDepth 100000 in
theorem kX6_wrongBits : KV yX6_wrongBits cX6_wrongBits 3 (some .int) 0 := ⟨⟨lw_h4 214 rfl rfl, lw_h4 215 rfl rfl⟩, ⟨in_X6, lw_h4 216 rfl rfl, ⟨nh_RX6.1, nh_RX6.2, pd_6⟩⟩⟩
set_option maxRecDepth 100000 in
theorem kX11_order : KV yX11_order cX11_order 5 (some .int) 0 := ⟨⟨lw_h4 219 rfl rfl, lw_h4 220 rfl rfl⟩, ⟨in_X11, lw_h4 221 rfl rfl, ⟨nh_RX11.1, nh_RX11.2, pd_6⟩⟩⟩
set_option maxRecDepth 100000 in
theorem kX3_begin : KV yX3_begin cX3_begin 4 none 2 := ⟨⟨lw_h4 223 rfl rfl, lw_h4 224 rfl rfl⟩, ⟨in_X3, lw_h4 225 rfl rfl, ⟨nh_RX3.1, nh_RX3.2, pd_37⟩⟩⟩
set_option maxRecDepth 100000 in
theorem kX6_placeHearses : KV yX6_placeHearses cX6_placeHearses 4 none 1 := ⟨⟨lw_h4 228 rfl rfl, lw_h4 229 rfl rfl⟩, ⟨in_X6, lw_h4 230 rfl rfl, ⟨nh_RX6.1, nh_RX6.2, pd_38⟩⟩⟩
set_option maxRecDepth 100000 in
theorem kX3_markBest : KV yX3_markBest cX3_markBest 1 none 0 := ⟨⟨lw_h4 232 rfl rfl, lw_h4 233 rfl rfl⟩, ⟨in_X3, lw_h4 234 rfl rfl, ⟨nh_RX3.1, nh_RX3.2, pd_0⟩⟩⟩
set_option maxRecDepth 100000 in
theorem kX3_toNext : KV yX3_toNext cX3_toNext 5 (some .boolean) 0 := ⟨⟨lw_h4 237 rfl rfl, lw_h4 238 rfl rfl⟩, ⟨in_X3, lw_h4 239 rfl rfl, ⟨nh_RX3.1, nh_RX3.2, pd_8⟩⟩⟩
set_option maxRecDepth 100000 in
theorem kX3_exchangeCells : KV yX3_exchangeCells cX3_exchangeCells 4 none 2 := ⟨⟨lw_h5 2 rfl rfl, lw_gi 22 rfl rfl⟩, ⟨in_X3, lw_h5 3 rfl rfl, ⟨nh_RX3.1, nh_RX3.2, pd_2⟩⟩⟩
set_option maxRecDepth 100000 in
theorem kX11_stands : KV yX11_stands cX11_stands 5 (some .int) 1 := ⟨⟨lw_h5 5 rfl rfl, lw_h5 6 rfl rfl⟩, ⟨in_X11, lw_h5 7 rfl rfl, ⟨nh_RX11.1, nh_RX11.2, pd_4⟩⟩⟩
set_option maxRecDepth 100000 in
theorem kX11_when : KV yX11_when cX11_when 5 (some .int) 1 := ⟨⟨lw_h5 10 rfl rfl, lw_h5 11 rfl rfl⟩, ⟨in_X11, lw_h5 12 rfl rfl, ⟨nh_RX11.1, nh_RX11.2, pd_4⟩⟩⟩
set_option maxRecDepth 100000 in
theorem kX11_isTurned : KV yX11_isTurned cX11_isTurned 3 (some .boolean) 1 := ⟨⟨lw_h5 15 rfl rfl, lw_gi 23 rfl rfl⟩, ⟨in_X11, lw_h5 16 rfl rfl, ⟨nh_RX11.1, nh_RX11.2, pd_5⟩⟩⟩
set_option maxRecDepth 100000 in
theorem kX11_mends : KV yX11_mends cX11_mends 6 (some .int) 1 := ⟨⟨lw_h5 18 rfl rfl, lw_h5 19 rfl rfl⟩, ⟨in_X11, lw_h5 20 rfl rfl, ⟨nh_RX11.1, nh_RX11.2, pd_4⟩⟩⟩
set_option maxRecDepth 100000 in
theorem kX11_ableToTurn : KV yX11_ableToTurn cX11_ableToTurn 3 (some .int) 0 := ⟨⟨lw_h5 23 rfl rfl, lw_gi 24 rfl rfl⟩, ⟨in_X11, lw_h5 24 rfl rfl, ⟨nh_RX11.1, nh_RX11.2, pd_6⟩⟩⟩
set_option maxRecDepth 100000 in
theorem kX11_turnInTrial : KV yX11_turnInTrial cX11_turnInTrial 3 none 1 := ⟨⟨lw_h5 27 rfl rfl, lw_gi 25 rfl rfl⟩, ⟨in_X11, lw_h5 28 rfl rfl, ⟨nh_RX11.1, nh_RX11.2, pd_3⟩⟩⟩
set_option maxRecDepth 100000 in
theorem kX11_misleads : KV yX11_misleads cX11_misleads 6 (some .int) 0 := ⟨⟨lw_h5 30 rfl rfl, lw_h5 31 rfl rfl⟩, ⟨in_X11, lw_h5 32 rfl rfl, ⟨nh_RX11.1, nh_RX11.2, pd_6⟩⟩⟩
set_option maxRecDepth 100000 in
theorem kX6_takeAway : KV yX6_takeAway cX6_takeAway 3 none 1 := ⟨⟨lw_h5 34 rfl rfl, lw_h5 35 rfl rfl⟩, ⟨in_X6, lw_h5 36 rfl rfl, ⟨nh_RX6.1, nh_RX6.2, pd_3⟩⟩⟩
set_option maxRecDepth 100000 in
theorem kX11_crowd : KV yX11_crowd cX11_crowd 5 (some .int) 0 := ⟨⟨lw_h5 41 rfl rfl, lw_h5 42 rfl rfl⟩, ⟨in_X11, lw_h5 43 rfl rfl, ⟨nh_RX11.1, nh_RX11.2, pd_6⟩⟩⟩
set_option maxRecDepth 100000 in
theorem kX11_shares : KV yX11_shares cX11_shares 6 (some .int) 1 := ⟨⟨lw_h5 45 rfl rfl, lw_h5 46 rfl rfl⟩, ⟨in_X11, lw_h5 47 rfl rfl, ⟨nh_RX11.1, nh_RX11.2, pd_4⟩⟩⟩
set_option maxRecDepth 100000 in
theorem kX7_weigh : KV yX7_weigh cX7_weigh 6 (some .int) 2 := ⟨⟨lw_h5 49 rfl rfl, lw_h5 50 rfl rfl⟩, ⟨in_X7, lw_h5 51 rfl rfl, ⟨nh_RX7.1, nh_RX7.2, pd_39⟩⟩⟩
set_option maxRecDepth 100000 in
theorem kX7_mostFrom : KV yX7_mostFrom cX7_mostFrom 6 (some .int) 3 := ⟨⟨lw_h5 54 rfl rfl, lw_gi 26 rfl rfl⟩, ⟨in_X7, lw_h5 55 rfl rfl, ⟨nh_RX7.1, nh_RX7.2, pd_40⟩⟩⟩
set_option maxRecDepth 100000 in
theorem kX7_canHave : KV yX7_canHave cX7_canHave 5 (some .boolean) 4 := ⟨⟨lw_h5 58 rfl rfl, lw_gi 27 rfl rfl⟩, ⟨in_X7, lw_h5 59 rfl rfl, ⟨nh_RX7.1, nh_RX7.2, pd_41⟩⟩⟩
set_option maxRecDepth 100000 in
theorem kX7_choice : KV yX7_choice cX7_choice 6 (some .int) 3 := ⟨⟨lw_h5 65 rfl rfl, lw_h5 66 rfl rfl⟩, ⟨in_X7, lw_h5 67 rfl rfl, ⟨nh_RX7.1, nh_RX7.2, pd_40⟩⟩⟩
set_option maxRecDepth 100000 in
theorem kX11_strangers : KV yX11_strangers cX11_strangers 6 (some .int) 0 := ⟨⟨lw_h5 69 rfl rfl, lw_h5 70 rfl rfl⟩, ⟨in_X11, lw_h5 71 rfl rfl, ⟨nh_RX11.1, nh_RX11.2, pd_6⟩⟩⟩
set_option maxRecDepth 100000 in
theorem kX11_doubts : KV yX11_doubts cX11_doubts 3 (some .int) 0 := ⟨⟨lw_h5 74 rfl rfl, lw_h5 75 rfl rfl⟩, ⟨in_X11, lw_h5 76 rfl rfl, ⟨nh_RX11.1, nh_RX11.2, pd_6⟩⟩⟩
set_option maxRecDepth 100000 in
theorem kX6_isInDoubt : KV yX6_isInDoubt cX6_isInDoubt 5 (some .boolean) 1 := ⟨⟨lw_h5 78 rfl rfl, lw_h5 79 rfl rfl⟩, ⟨in_X6, lw_h5 80 rfl rfl, ⟨nh_RX6.1, nh_RX6.2, pd_5⟩⟩⟩
set_option maxRecDepth 100000 in
theorem kX11_heard : KV yX11_heard cX11_heard 3 (some .int) 2 := ⟨⟨lw_h5 84 rfl rfl, lw_h5 85 rfl rfl⟩, ⟨in_X11, lw_h5 86 rfl rfl, ⟨nh_RX11.1, nh_RX11.2, pd_11⟩⟩⟩
set_option maxRecDepth 100000 in
theorem kX0_add : KV yX0_add cX0_add 3 (some .boolean) 2 := ⟨⟨lw_h5 88 rfl rfl, lw_h5 89 rfl rfl⟩, ⟨in_X0, lw_h5 90 rfl rfl, ⟨nh_RX0.1, nh_RX0.2, pd_34⟩⟩⟩
set_option maxRecDepth 100000 in
theorem kX0_canBe : KS yX0_canBe cX0_canBe 2 (some .boolean) 2 := ⟨lw_h5 92 rfl rfl, ⟨in_X0, lw_h5 93 rfl rfl, ⟨nh_RX0.1, nh_RX0.2, pd_34⟩⟩⟩
set_option maxRecDepth 100000 in
theorem kX11_forget : KV yX11_forget cX11_forget 2 (some .int) 0 := ⟨⟨lw_h5 95 rfl rfl, lw_h5 96 rfl rfl⟩, ⟨in_X11, lw_h5 97 rfl rfl, ⟨nh_RX11.1, nh_RX11.2, pd_6⟩⟩⟩
set_option maxRecDepth 100000 in
theorem kX11_fits : KV yX11_fits cX11_fits 3 (some .int) 0 := ⟨⟨lw_h5 99 rfl rfl, lw_h5 100 rfl rfl⟩, ⟨in_X11, lw_h5 101 rfl rfl, ⟨nh_RX11.1, nh_RX11.2, pd_6⟩⟩⟩
set_option maxRecDepth 100000 in
theorem kX0_isTrueOf : KV yX0_isTrueOf cX0_isTrueOf 4 (some .boolean) 2 := ⟨⟨lw_h5 103 rfl rfl, lw_h5 104 rfl rfl⟩, ⟨in_X0, lw_h5 105 rfl rfl, ⟨nh_RX0.1, nh_RX0.2, pd_42⟩⟩⟩
set_option maxRecDepth 100000 in
theorem kX0_isOneTrueOf : KV yX0_isOneTrueOf cX0_isOneTrueOf 4 (some .boolean) 3 := ⟨⟨lw_h5 108 rfl rfl, lw_gi 28 rfl rfl⟩, ⟨in_X0, lw_h5 109 rfl rfl, ⟨nh_RX0.1, nh_RX0.2, pd_43⟩⟩⟩
set_option maxRecDepth 100000 in
theorem kX11_rains : KV yX11_rains cX11_rains 12 (some .int) 3 := ⟨⟨lw_h5 113 rfl rfl, lw_h5 114 rfl rfl⟩, ⟨in_X11, lw_h5 115 rfl rfl, ⟨nh_RX11.1, nh_RX11.2, pd_28⟩⟩⟩
set_option maxRecDepth 100000 in
theorem kX11_power : KS yX11_power cX11_power 6 (some .long) 2 := ⟨lw_h5 117 rfl rfl, ⟨in_X11, lw_h5 118 rfl rfl, ⟨nh_RX11.1, nh_RX11.2, pd_44⟩⟩⟩
set_option maxRecDepth 100000 in
theorem kX11_commonDivisor : KS yX11_commonDivisor cX11_commonDivisor 11 (some .long) 2 := ⟨lw_h5 121 rfl rfl, ⟨in_X11, lw_h5 122 rfl rfl, ⟨nh_RX11.1, nh_RX11.2, pd_45⟩⟩⟩
set_option maxRecDepth 100000 in
theorem kX11_law : KV yX11_law cX11_law 4 (some .int) 0 := ⟨⟨lw_h5 124 rfl rfl, lw_h5 125 rfl rfl⟩, ⟨in_X11, lw_h5 126 rfl rfl, ⟨nh_RX11.1, nh_RX11.2, pd_6⟩⟩⟩
set_option maxRecDepth 100000 in
theorem kX11_rests : KV yX11_rests cX11_rests 5 (some .int) 1 := ⟨⟨lw_h5 128 rfl rfl, lw_h5 129 rfl rfl⟩, ⟨in_X11, lw_h5 130 rfl rfl, ⟨nh_RX11.1, nh_RX11.2, pd_4⟩⟩⟩
set_option maxRecDepth 100000 in
theorem kX11_isBestAnswer : KS yX11_isBestAnswer cX11_isBestAnswer 5 (some .boolean) 3 := ⟨lw_h5 132 rfl rfl, ⟨in_X11, lw_h5 133 rfl rfl, ⟨nh_RX11.1, nh_RX11.2, pd_46⟩⟩⟩
set_option maxRecDepth 100000 in
theorem kX11_gain : KS yX11_gain cX11_gain 4 (some .int) 3 := ⟨lw_h5 135 rfl rfl, ⟨in_X11, lw_h5 136 rfl rfl, ⟨nh_RX11.1, nh_RX11.2, pd_28⟩⟩⟩
set_option maxRecDepth 100000 in
theorem kX11_years : KV yX11_years cX11_years 6 (some .int) 2 := ⟨⟨lw_h5 138 rfl rfl, lw_h5 139 rfl rfl⟩, ⟨in_X11, lw_h5 140 rfl rfl, ⟨nh_RX11.1, nh_RX11.2, pd_11⟩⟩⟩
set_option maxRecDepth 100000 in
theorem kX11_draw : KV yX11_draw cX11_draw 2 (some .int) 1 := ⟨⟨lw_h5 143 rfl rfl, lw_gi 29 rfl rfl⟩, ⟨in_X11, lw_h5 144 rfl rfl, ⟨nh_RX11.1, nh_RX11.2, pd_4⟩⟩⟩
set_option maxRecDepth 100000 in
theorem kX11_keep : KV yX11_keep cX11_keep 2 (some .boolean) 1 := ⟨⟨lw_h5 147 rfl rfl, lw_h5 148 rfl rfl⟩, ⟨in_X11, lw_h5 149 rfl rfl, ⟨nh_RX11.1, nh_RX11.2, pd_5⟩⟩⟩
set_option maxRecDepth 100000 in
theorem kX11_again : KV yX11_again cX11_again 2 (some .boolean) 1 := ⟨⟨lw_h5 151 rfl rfl, lw_h5 152 rfl rfl⟩, ⟨in_X11, lw_h5 153 rfl rfl, ⟨nh_RX11.1, nh_RX11.2, pd_5⟩⟩⟩
set_option maxRecDepth 100000 in
theorem kX11_count : KV yX11_count cX11_count 2 (some .int) 1 := ⟨⟨lw_h5 155 rfl rfl, lw_h5 156 rfl rfl⟩, ⟨in_X11, lw_h5 157 rfl rfl, ⟨nh_RX11.1, nh_RX11.2, pd_4⟩⟩⟩
set_option maxRecDepth 100000 in
theorem kX11_hearse : KV yX11_hearse cX11_hearse 3 (some .int) 2 := ⟨⟨lw_h5 164 rfl rfl, lw_h5 165 rfl rfl⟩, ⟨in_X11, lw_h5 166 rfl rfl, ⟨nh_RX11.1, nh_RX11.2, pd_11⟩⟩⟩
set_option maxRecDepth 100000 in
theorem kX11_paceNow : KV yX11_paceNow cX11_paceNow 2 (some .int) 1 := ⟨⟨lw_h5 234 rfl rfl, lw_gi 31 rfl rfl⟩, ⟨in_X11, lw_h5 235 rfl rfl, ⟨nh_RX11.1, nh_RX11.2, pd_4⟩⟩⟩
set_option maxRecDepth 100000 in
theorem kX11_mourner : KV yX11_mourner cX11_mourner 3 (some .int) 2 := ⟨⟨lw_h6 3 rfl rfl, lw_h6 4 rfl rfl⟩, ⟨in_X11, lw_h6 5 rfl rfl, ⟨nh_RX11.1, nh_RX11.2, pd_11⟩⟩⟩
set_option maxRecDepth 100000 in
theorem kX11_row : KV yX11_row cX11_row 2 (some .long) 1 := ⟨⟨lw_h6 13 rfl rfl, lw_h6 14 rfl rfl⟩, ⟨in_X11, lw_h6 15 rfl rfl, ⟨nh_RX11.1, nh_RX11.2, pd_47⟩⟩⟩
set_option maxRecDepth 100000 in
theorem kX12_init : KI yX12_init cX12_init 1 none 0 := ⟨⟨rfl, lw_h6 20 rfl rfl⟩, ⟨in_X12, lw_h6 21 rfl rfl, ⟨nh_RX12.1, nh_RX12.2, pd_0⟩⟩⟩
set_option maxRecDepth 100000 in
theorem kX12_sign : KV yX12_sign cX12_sign 3 (some .int) 1 := ⟨⟨lw_h6 184 rfl rfl, lw_h6 185 rfl rfl⟩, ⟨in_X12, lw_h6 186 rfl rfl, ⟨nh_RX12.1, nh_RX12.2, pd_4⟩⟩⟩
set_option maxRecDepth 100000 in
theorem kX12_end : KV yX12_end cX12_end 2 (some .boolean) 1 := ⟨⟨lw_h6 188 rfl rfl, lw_h6 189 rfl rfl⟩, ⟨in_X12, lw_h6 190 rfl rfl, ⟨nh_RX12.1, nh_RX12.2, pd_5⟩⟩⟩
set_option maxRecDepth 100000 in
theorem kX12_in : KS yX12_in cX12_in 6 (some .boolean) 3 := ⟨lw_h6 192 rfl rfl, ⟨in_X12, lw_h6 193 rfl rfl, ⟨nh_RX12.1, nh_RX12.2, pd_48⟩⟩⟩
set_option maxRecDepth 100000 in
theorem kX12_avenue : KV yX12_avenue cX12_avenue 4 (some .int) 0 := ⟨⟨lw_h6 195 rfl rfl, lw_h6 196 rfl rfl⟩, ⟨in_X12, lw_h6 197 rfl rfl, ⟨nh_RX12.1, nh_RX12.2, pd_6⟩⟩⟩
set_option maxRecDepth 100000 in
theorem kX12_begins : KV yX12_begins cX12_begins 3 (some .int) 1 := ⟨⟨lw_h6 200 rfl rfl, lw_gi 32 rfl rfl⟩, ⟨in_X12, lw_h6 201 rfl rfl, ⟨nh_RX12.1, nh_RX12.2, pd_4⟩⟩⟩
set_option maxRecDepth 100000 in
theorem kX12_takesOf : KV yX12_takesOf cX12_takesOf 3 (some .int) 1 := ⟨⟨lw_h6 206 rfl rfl, lw_gi 33 rfl rfl⟩, ⟨in_X12, lw_h6 207 rfl rfl, ⟨nh_RX12.1, nh_RX12.2, pd_49⟩⟩⟩
set_option maxRecDepth 100000 in
theorem kJ0_charAt_5068e : KV yJ0_charAt_5068e cJ0_charAt_5068e 2 (some .char) 1 := ⟨⟨lw_h6 210 rfl rfl, lw_h6 211 rfl rfl⟩, ⟨in_J0, lw_h6 212 rfl rfl, ⟨nh_RJ0.1, nh_RJ0.2, pd_21⟩⟩⟩
set_option maxRecDepth 100000 in
theorem kJ1_charAt_3b067 : KS yJ1_charAt_3b067 cJ1_charAt_3b067 2 (some .char) 2 := ⟨lw_h6 214 rfl rfl, ⟨in_J1, lw_h6 215 rfl rfl, ⟨nh_RJ1.1, nh_RJ1.2, pd_20⟩⟩⟩
set_option maxRecDepth 100000 in
theorem kJ0_checkIndex_df160 : KS yJ0_checkIndex_df160 cJ0_checkIndex_df160 2 none 2 := ⟨lw_h6 217 rfl rfl, ⟨in_J0, lw_h6 218 rfl rfl, ⟨nh_RJ0.1, nh_RJ0.2, pd_2⟩⟩⟩
set_option maxRecDepth 100000 in
theorem kJ3_checkIndex_8e157 : KS yJ3_checkIndex_8e157 cJ3_checkIndex_8e157 3 (some .int) 3 := ⟨lw_h6 220 rfl rfl, ⟨in_J3, lw_h6 221 rfl rfl, ⟨nh_RJ3.1, nh_RJ3.2, pd_50⟩⟩⟩
set_option maxRecDepth 100000 in
theorem kX12_flag : KS yX12_flag cX12_flag 1 (some .int) 1 := ⟨lw_h6 230 rfl rfl, ⟨in_X12, lw_h6 231 rfl rfl, ⟨nh_RX12.1, nh_RX12.2, pd_9⟩⟩⟩
set_option maxRecDepth 100000 in
theorem kX12_hearses : KV yX12_hearses cX12_hearses 6 (some .int) 0 := ⟨⟨lw_h6 233 rfl rfl, lw_h6 234 rfl rfl⟩, ⟨in_X12, lw_h6 235 rfl rfl, ⟨nh_RX12.1, nh_RX12.2, pd_6⟩⟩⟩
set_option maxRecDepth 100000 in
theorem kX12_readsHearse : KV yX12_readsHearse cX12_readsHearse 2 (some .boolean) 0 := ⟨⟨lw_h6 238 rfl rfl, lw_gi 34 rfl rfl⟩, ⟨in_X12, lw_h6 239 rfl rfl, ⟨nh_RX12.1, nh_RX12.2, pd_8⟩⟩⟩
set_option maxRecDepth 100000 in
theorem kX12_readsCell : KV yX12_readsCell cX12_readsCell 5 (some .int) 1 := ⟨⟨lw_h7 2 rfl rfl, lw_gi 35 rfl rfl⟩, ⟨in_X12, lw_h7 3 rfl rfl, ⟨nh_RX12.1, nh_RX12.2, pd_9⟩⟩⟩
set_option maxRecDepth 100000 in
theorem kX12_number : KV yX12_number cX12_number 4 (some .int) 1 := ⟨⟨lw_h7 6 rfl rfl, lw_gi 36 rfl rfl⟩, ⟨in_X12, lw_h7 7 rfl rfl, ⟨nh_RX12.1, nh_RX12.2, pd_4⟩⟩⟩
set_option maxRecDepth 100000 in
theorem kX12_isDigit : KV yX12_isDigit cX12_isDigit 1 (some .boolean) 0 := ⟨⟨lw_h7 10 rfl rfl, lw_gi 37 rfl rfl⟩, ⟨in_X12, lw_h7 11 rfl rfl, ⟨nh_RX12.1, nh_RX12.2, pd_8⟩⟩⟩
set_option maxRecDepth 100000 in
theorem kX12_gate : KV yX12_gate cX12_gate 1 (some .int) 0 := ⟨⟨lw_h7 16 rfl rfl, lw_gi 38 rfl rfl⟩, ⟨in_X12, lw_h7 17 rfl rfl, ⟨nh_RX12.1, nh_RX12.2, pd_6⟩⟩⟩
set_option maxRecDepth 100000 in
theorem kX12_onCell : KV yX12_onCell cX12_onCell 5 (some .int) 2 := ⟨⟨lw_h7 20 rfl rfl, lw_gi 39 rfl rfl⟩, ⟨in_X12, lw_h7 21 rfl rfl, ⟨nh_RX12.1, nh_RX12.2, pd_27⟩⟩⟩
set_option maxRecDepth 100000 in
theorem kX12_takes : KV yX12_takes cX12_takes 3 (some .boolean) 1 := ⟨⟨lw_h7 24 rfl rfl, lw_gi 40 rfl rfl⟩, ⟨in_X12, lw_h7 25 rfl rfl, ⟨nh_RX12.1, nh_RX12.2, pd_5⟩⟩⟩
set_option maxRecDepth 100000 in
theorem kX12_faultOf : KV yX12_faultOf cX12_faultOf 5 (some .int) 3 := ⟨⟨lw_h7 28 rfl rfl, lw_gi 41 rfl rfl⟩, ⟨in_X12, lw_h7 29 rfl rfl, ⟨nh_RX12.1, nh_RX12.2, pd_52⟩⟩⟩
set_option maxRecDepth 100000 in
theorem kX12_isNew : KV yX12_isNew cX12_isNew 1 (some .int) 0 := ⟨⟨lw_h7 32 rfl rfl, lw_gi 42 rfl rfl⟩, ⟨in_X12, lw_h7 33 rfl rfl, ⟨nh_RX12.1, nh_RX12.2, pd_6⟩⟩⟩
end
section
set_option maxRecDepth 100000 in
theorem kX12_mourners : KV yX12_mourners cX12_mourners 6 (some .int) 0 := ⟨⟨lw_h7 35 rfl rfl, lw_h7 36 rfl rfl⟩, ⟨in_X12, lw_h7 37 rfl rfl, ⟨nh_RX12.1, nh_RX12.2, pd_6⟩⟩⟩
set_option maxRecDepth 100000 in
theorem kX12_readsMourner : KV yX12_readsMourner cX12_readsMourner 2 (some .boolean) 0 := ⟨⟨lw_h7 40 rfl rfl, lw_gi 43 rfl rfl⟩, ⟨in_X12, lw_h7 41 rfl rfl, ⟨nh_RX12.1, nh_RX12.2, pd_8⟩⟩⟩
set_option maxRecDepth 100000 in
theorem kJ0_substring_37a41 : KV yJ0_substring_37a41 cJ0_substring_37a41 5 (some (.object "java/lang/String")) 2 := ⟨⟨lw_h7 44 rfl rfl, lw_h7 45 rfl rfl⟩, ⟨in_J0, lw_h7 46 rfl rfl, ⟨nh_RJ0.1, nh_RJ0.2, pd_53⟩⟩⟩
set_option maxRecDepth 100000 in
theorem kJ1_newString_b4f7a : KS yJ1_newString_b4f7a cJ1_newString_b4f7a 3 (some (.object "java/lang/String")) 3 := ⟨lw_h7 49 rfl rfl, ⟨in_J1, lw_h7 50 rfl rfl, ⟨nh_RJ1.1, nh_RJ1.2, pd_54⟩⟩⟩
set_option maxRecDepth 100000 in
theorem kJ7_copyOfRange_39247 : KS yJ7_copyOfRange_39247 cJ7_copyOfRange_39247 3 (some (.array .byte)) 3 := ⟨lw_h7 55 rfl rfl, ⟨in_J7, lw_h7 56 rfl rfl, ⟨nh_RJ7.1, nh_RJ7.2, pd_55⟩⟩⟩
set_option maxRecDepth 100000 in
theorem kJ7_copyOfRangeByte_39247 : KS yJ7_copyOfRangeByte_39247 cJ7_copyOfRangeByte_39247 5 (some (.array .byte)) 3 := ⟨lw_h7 58 rfl rfl, ⟨in_J7, lw_h7 59 rfl rfl, ⟨nh_RJ7.1, nh_RJ7.2, pd_55⟩⟩⟩
set_option maxRecDepth 100000 in
theorem kJ7_checkLength_df160 : KS yJ7_checkLength_df160 cJ7_checkLength_df160 2 none 2 := ⟨lw_h7 61 rfl rfl, ⟨in_J7, lw_h7 62 rfl rfl, ⟨nh_RJ7.1, nh_RJ7.2, pd_2⟩⟩⟩
set_option maxRecDepth 100000 in
theorem kJ0_init_031fb : KI yJ0_init_031fb cJ0_init_031fb 3 none 2 := ⟨⟨rfl, lw_h7 73 rfl rfl⟩, ⟨in_J0, lw_h7 74 rfl rfl, ⟨nh_RJ0.1, nh_RJ0.2, pd_56⟩⟩⟩
set_option maxRecDepth 100000 in
theorem kX12_weather : KV yX12_weather cX12_weather 3 (some .int) 0 := ⟨⟨lw_h7 118 rfl rfl, lw_h7 119 rfl rfl⟩, ⟨in_X12, lw_h7 120 rfl rfl, ⟨nh_RX12.1, nh_RX12.2, pd_6⟩⟩⟩
set_option maxRecDepth 100000 in
theorem kX12_rule : KV yX12_rule cX12_rule 2 (some .int) 0 := ⟨⟨lw_h7 122 rfl rfl, lw_h7 123 rfl rfl⟩, ⟨in_X12, lw_h7 124 rfl rfl, ⟨nh_RX12.1, nh_RX12.2, pd_6⟩⟩⟩
set_option maxRecDepth 100000 in
theorem kX12_readsRule : KV yX12_readsRule cX12_readsRule 3 (some .int) 0 := ⟨⟨lw_h7 127 rfl rfl, lw_gi 44 rfl rfl⟩, ⟨in_X12, lw_h7 128 rfl rfl, ⟨nh_RX12.1, nh_RX12.2, pd_6⟩⟩⟩
set_option maxRecDepth 100000 in
theorem kX12_readsRank : KV yX12_readsRank cX12_readsRank 4 (some .boolean) 1 := ⟨⟨lw_h7 131 rfl rfl, lw_gi 45 rfl rfl⟩, ⟨in_X12, lw_h7 132 rfl rfl, ⟨nh_RX12.1, nh_RX12.2, pd_5⟩⟩⟩
set_option maxRecDepth 100000 in
theorem kX12_readsThing : KV yX12_readsThing cX12_readsThing 2 (some .boolean) 0 := ⟨⟨lw_h7 135 rfl rfl, lw_gi 46 rfl rfl⟩, ⟨in_X12, lw_h7 136 rfl rfl, ⟨nh_RX12.1, nh_RX12.2, pd_8⟩⟩⟩
set_option maxRecDepth 100000 in
theorem kX12_codes : KV yX12_codes cX12_codes 2 none 1 := ⟨⟨lw_h7 139 rfl rfl, lw_gi 47 rfl rfl⟩, ⟨in_X12, lw_h7 140 rfl rfl, ⟨nh_RX12.1, nh_RX12.2, pd_3⟩⟩⟩
set_option maxRecDepth 100000 in
theorem kX12_laysCode : KV yX12_laysCode cX12_laysCode 4 none 2 := ⟨⟨lw_h7 147 rfl rfl, lw_gi 48 rfl rfl⟩, ⟨in_X12, lw_h7 148 rfl rfl, ⟨nh_RX12.1, nh_RX12.2, pd_59⟩⟩⟩
set_option maxRecDepth 100000 in
theorem kX12_hearse : KV yX12_hearse cX12_hearse 3 (some .int) 2 := ⟨⟨lw_h7 150 rfl rfl, lw_h7 151 rfl rfl⟩, ⟨in_X12, lw_h7 152 rfl rfl, ⟨nh_RX12.1, nh_RX12.2, pd_11⟩⟩⟩
set_option maxRecDepth 100000 in
theorem kX12_isHearse : KV yX12_isHearse cX12_isHearse 2 (some .boolean) 1 := ⟨⟨lw_h7 155 rfl rfl, lw_gi 49 rfl rfl⟩, ⟨in_X12, lw_h7 156 rfl rfl, ⟨nh_RX12.1, nh_RX12.2, pd_5⟩⟩⟩
set_option maxRecDepth 100000 in
theorem kX12_refuse : KV yX12_refuse cX12_refuse 1 (some .int) 0 := ⟨⟨lw_h7 160 rfl rfl, lw_gi 50 rfl rfl⟩, ⟨in_X12, lw_h7 161 rfl rfl, ⟨nh_RX12.1, nh_RX12.2, pd_6⟩⟩⟩
set_option maxRecDepth 100000 in
theorem kX12_paceOf : KV yX12_paceOf cX12_paceOf 3 (some .int) 2 := ⟨⟨lw_h7 164 rfl rfl, lw_gi 51 rfl rfl⟩, ⟨in_X12, lw_h7 165 rfl rfl, ⟨nh_RX12.1, nh_RX12.2, pd_27⟩⟩⟩
set_option maxRecDepth 100000 in
theorem kX12_isOn : KS yX12_isOn cX12_isOn 2 (some .boolean) 2 := ⟨lw_h7 167 rfl rfl, ⟨in_X12, lw_h7 168 rfl rfl, ⟨nh_RX12.1, nh_RX12.2, pd_60⟩⟩⟩
set_option maxRecDepth 100000 in
theorem kX12_freeAhead : KV yX12_freeAhead cX12_freeAhead 4 (some .int) 2 := ⟨⟨lw_h7 171 rfl rfl, lw_gi 52 rfl rfl⟩, ⟨in_X12, lw_h7 172 rfl rfl, ⟨nh_RX12.1, nh_RX12.2, pd_27⟩⟩⟩
set_option maxRecDepth 100000 in
theorem kX12_weatherOn : KV yX12_weatherOn cX12_weatherOn 2 (some .int) 1 := ⟨⟨lw_h7 175 rfl rfl, lw_gi 53 rfl rfl⟩, ⟨in_X12, lw_h7 176 rfl rfl, ⟨nh_RX12.1, nh_RX12.2, pd_4⟩⟩⟩
set_option maxRecDepth 100000 in
theorem kX12_bitsBy : KV yX12_bitsBy cX12_bitsBy 6 (some .int) 3 := ⟨⟨lw_h7 179 rfl rfl, lw_gi 54 rfl rfl⟩, ⟨in_X12, lw_h7 180 rfl rfl, ⟨nh_RX12.1, nh_RX12.2, pd_61⟩⟩⟩
set_option maxRecDepth 100000 in
theorem kX12_ruled : KV yX12_ruled cX12_ruled 4 (some .int) 0 := ⟨⟨lw_h7 184 rfl rfl, lw_gi 55 rfl rfl⟩, ⟨in_X12, lw_h7 185 rfl rfl, ⟨nh_RX12.1, nh_RX12.2, pd_6⟩⟩⟩
set_option maxRecDepth 100000 in
theorem kX12_worked : KS yX12_worked cX12_worked 3 (some .int) 3 := ⟨lw_h7 187 rfl rfl, ⟨in_X12, lw_h7 188 rfl rfl, ⟨nh_RX12.1, nh_RX12.2, pd_28⟩⟩⟩
set_option maxRecDepth 100000 in
theorem kX12_owners : KV yX12_owners cX12_owners 4 (some .int) 1 := ⟨⟨lw_h7 192 rfl rfl, lw_gi 56 rfl rfl⟩, ⟨in_X12, lw_h7 193 rfl rfl, ⟨nh_RX12.1, nh_RX12.2, pd_4⟩⟩⟩
set_option maxRecDepth 100000 in
theorem kX12_mourner : KV yX12_mourner cX12_mourner 3 (some .int) 2 := ⟨⟨lw_h7 195 rfl rfl, lw_h7 196 rfl rfl⟩, ⟨in_X12, lw_h7 197 rfl rfl, ⟨nh_RX12.1, nh_RX12.2, pd_11⟩⟩⟩
set_option maxRecDepth 100000 in
theorem kX12_isMourner : KV yX12_isMourner cX12_isMourner 2 (some .boolean) 1 := ⟨⟨lw_h7 200 rfl rfl, lw_gi 57 rfl rfl⟩, ⟨in_X12, lw_h7 201 rfl rfl, ⟨nh_RX12.1, nh_RX12.2, pd_5⟩⟩⟩
set_option maxRecDepth 100000 in
theorem kX12_nearest : KV yX12_nearest cX12_nearest 7 (some .int) 2 := ⟨⟨lw_h7 205 rfl rfl, lw_gi 58 rfl rfl⟩, ⟨in_X12, lw_h7 206 rfl rfl, ⟨nh_RX12.1, nh_RX12.2, pd_27⟩⟩⟩
set_option maxRecDepth 100000 in
theorem kX12_sheet : KV yX12_sheet cX12_sheet 10 (some .int) 4 := ⟨⟨lw_h7 210 rfl rfl, lw_h7 211 rfl rfl⟩, ⟨in_X12, lw_h7 212 rfl rfl, ⟨nh_RX12.1, nh_RX12.2, pd_23⟩⟩⟩
set_option maxRecDepth 100000 in
theorem kX12_isEnded : KS yX12_isEnded cX12_isEnded 2 (some .boolean) 2 := ⟨lw_h7 215 rfl rfl, ⟨in_X12, lw_h7 216 rfl rfl, ⟨nh_RX12.1, nh_RX12.2, pd_60⟩⟩⟩
set_option maxRecDepth 100000 in
theorem kX12_undo : KV yX12_undo cX12_undo 2 (some .int) 0 := ⟨⟨lw_h7 218 rfl rfl, lw_h7 219 rfl rfl⟩, ⟨in_X12, lw_h7 220 rfl rfl, ⟨nh_RX12.1, nh_RX12.2, pd_6⟩⟩⟩
set_option maxRecDepth 100000 in
theorem kX12_steps : KV yX12_steps cX12_steps 2 (some .int) 1 := ⟨⟨lw_h7 222 rfl rfl, lw_h7 223 rfl rfl⟩, ⟨in_X12, lw_h7 224 rfl rfl, ⟨nh_RX12.1, nh_RX12.2, pd_4⟩⟩⟩
set_option maxRecDepth 100000 in
theorem kX12_putsBy : KV yX12_putsBy cX12_putsBy 2 none 0 := ⟨⟨lw_h7 228 rfl rfl, lw_gi 59 rfl rfl⟩, ⟨in_X12, lw_h7 229 rfl rfl, ⟨nh_RX12.1, nh_RX12.2, pd_0⟩⟩⟩
set_option maxRecDepth 100000 in
theorem kX12_goesOn : KV yX12_goesOn cX12_goesOn 4 none 2 := ⟨⟨lw_h7 232 rfl rfl, lw_gi 60 rfl rfl⟩, ⟨in_X12, lw_h7 233 rfl rfl, ⟨nh_RX12.1, nh_RX12.2, pd_59⟩⟩⟩
set_option maxRecDepth 100000 in
theorem kX12_stepGoes : KV yX12_stepGoes cX12_stepGoes 3 none 1 := ⟨⟨lw_h7 236 rfl rfl, lw_gi 61 rfl rfl⟩, ⟨in_X12, lw_h7 237 rfl rfl, ⟨nh_RX12.1, nh_RX12.2, pd_38⟩⟩⟩
set_option maxRecDepth 100000 in
theorem kX12_laysLine : KV yX12_laysLine cX12_laysLine 4 none 1 := ⟨⟨lw_h8 0 rfl rfl, lw_gi 62 rfl rfl⟩, ⟨in_X12, lw_h8 1 rfl rfl, ⟨nh_RX12.1, nh_RX12.2, pd_38⟩⟩⟩
set_option maxRecDepth 100000 in
theorem kX12_hearseGoes : KV yX12_hearseGoes cX12_hearseGoes 4 none 2 := ⟨⟨lw_h8 4 rfl rfl, lw_gi 63 rfl rfl⟩, ⟨in_X12, lw_h8 5 rfl rfl, ⟨nh_RX12.1, nh_RX12.2, pd_59⟩⟩⟩
set_option maxRecDepth 100000 in
theorem kX12_goal : KV yX12_goal cX12_goal 10 (some .int) 3 := ⟨⟨lw_h8 8 rfl rfl, lw_gi 64 rfl rfl⟩, ⟨in_X12, lw_h8 9 rfl rfl, ⟨nh_RX12.1, nh_RX12.2, pd_61⟩⟩⟩
set_option maxRecDepth 100000 in
theorem kX12_mournerGoes : KV yX12_mournerGoes cX12_mournerGoes 6 none 2 := ⟨⟨lw_h8 12 rfl rfl, lw_gi 65 rfl rfl⟩, ⟨in_X12, lw_h8 13 rfl rfl, ⟨nh_RX12.1, nh_RX12.2, pd_59⟩⟩⟩
set_option maxRecDepth 100000 in
theorem kX12_enters : KV yX12_enters cX12_enters 3 none 1 := ⟨⟨lw_h8 16 rfl rfl, lw_gi 66 rfl rfl⟩, ⟨in_X12, lw_h8 17 rfl rfl, ⟨nh_RX12.1, nh_RX12.2, pd_31⟩⟩⟩
set_option maxRecDepth 100000 in
theorem kX12_adds : KV yX12_adds cX12_adds 3 (some .int) 1 := ⟨⟨lw_h8 20 rfl rfl, lw_gi 67 rfl rfl⟩, ⟨in_X12, lw_h8 21 rfl rfl, ⟨nh_RX12.1, nh_RX12.2, pd_4⟩⟩⟩
set_option maxRecDepth 100000 in
theorem kX12_turnsTo : KV yX12_turnsTo cX12_turnsTo 2 (some .int) 1 := ⟨⟨lw_h8 23 rfl rfl, lw_h8 24 rfl rfl⟩, ⟨in_X12, lw_h8 25 rfl rfl, ⟨nh_RX12.1, nh_RX12.2, pd_4⟩⟩⟩
set_option maxRecDepth 100000 in
theorem kX12_turnsOne : KV yX12_turnsOne cX12_turnsOne 4 (some .int) 2 := ⟨⟨lw_h8 28 rfl rfl, lw_gi 68 rfl rfl⟩, ⟨in_X12, lw_h8 29 rfl rfl, ⟨nh_RX12.1, nh_RX12.2, pd_27⟩⟩⟩
set_option maxRecDepth 100000 in
theorem kX12_counted : KV yX12_counted cX12_counted 2 (some .int) 1 := ⟨⟨lw_h8 32 rfl rfl, lw_gi 69 rfl rfl⟩, ⟨in_X12, lw_h8 33 rfl rfl, ⟨nh_RX12.1, nh_RX12.2, pd_4⟩⟩⟩
set_option maxRecDepth 100000 in
theorem kX12_pushes : KV yX12_pushes cX12_pushes 3 (some .int) 2 := ⟨⟨lw_h8 35 rfl rfl, lw_h8 36 rfl rfl⟩, ⟨in_X12, lw_h8 37 rfl rfl, ⟨nh_RX12.1, nh_RX12.2, pd_11⟩⟩⟩
set_option maxRecDepth 100000 in
theorem kX12_pushesOne : KV yX12_pushesOne cX12_pushesOne 4 (some .int) 3 := ⟨⟨lw_h8 40 rfl rfl, lw_gi 70 rfl rfl⟩, ⟨in_X12, lw_h8 41 rfl rfl, ⟨nh_RX12.1, nh_RX12.2, pd_61⟩⟩⟩
set_option maxRecDepth 100000 in
theorem kX12_swaps : KV yX12_swaps cX12_swaps 3 (some .int) 2 := ⟨⟨lw_h8 45 rfl rfl, lw_h8 46 rfl rfl⟩, ⟨in_X12, lw_h8 47 rfl rfl, ⟨nh_RX12.1, nh_RX12.2, pd_11⟩⟩⟩
set_option maxRecDepth 100000 in
theorem kX12_swapsTwo : KV yX12_swapsTwo cX12_swapsTwo 4 (some .int) 2 := ⟨⟨lw_h8 50 rfl rfl, lw_gi 71 rfl rfl⟩, ⟨in_X12, lw_h8 51 rfl rfl, ⟨nh_RX12.1, nh_RX12.2, pd_11⟩⟩⟩
set_option maxRecDepth 100000 in
theorem kX12_hour : KV yX12_hour cX12_hour 5 (some .int) 0 := ⟨⟨lw_h8 53 rfl rfl, lw_h8 54 rfl rfl⟩, ⟨in_X12, lw_h8 55 rfl rfl, ⟨nh_RX12.1, nh_RX12.2, pd_6⟩⟩⟩
set_option maxRecDepth 100000 in
theorem kX12_readsAct : KV yX12_readsAct cX12_readsAct 2 (some .boolean) 0 := ⟨⟨lw_h8 58 rfl rfl, lw_gi 72 rfl rfl⟩, ⟨in_X12, lw_h8 59 rfl rfl, ⟨nh_RX12.1, nh_RX12.2, pd_8⟩⟩⟩
set_option maxRecDepth 100000 in
theorem kX12_digitIn : KV yX12_digitIn cX12_digitIn 3 (some .int) 2 := ⟨⟨lw_h8 63 rfl rfl, lw_gi 73 rfl rfl⟩, ⟨in_X12, lw_h8 64 rfl rfl, ⟨nh_RX12.1, nh_RX12.2, pd_11⟩⟩⟩
set_option maxRecDepth 100000 in
theorem kX12_does : KV yX12_does cX12_does 4 (some .boolean) 1 := ⟨⟨lw_h8 67 rfl rfl, lw_gi 74 rfl rfl⟩, ⟨in_X12, lw_h8 68 rfl rfl, ⟨nh_RX12.1, nh_RX12.2, pd_5⟩⟩⟩
set_option maxRecDepth 100000 in
theorem kX12_line : KV yX12_line cX12_line 2 (some .int) 0 := ⟨⟨lw_h8 70 rfl rfl, lw_h8 71 rfl rfl⟩, ⟨in_X12, lw_h8 72 rfl rfl, ⟨nh_RX12.1, nh_RX12.2, pd_6⟩⟩⟩
set_option maxRecDepth 100000 in
theorem kX12_ahead : KV yX12_ahead cX12_ahead 3 (some .int) 1 := ⟨⟨lw_h8 74 rfl rfl, lw_h8 75 rfl rfl⟩, ⟨in_X12, lw_h8 76 rfl rfl, ⟨nh_RX12.1, nh_RX12.2, pd_4⟩⟩⟩
set_option maxRecDepth 100000 in
theorem kX12_copies : KV yX12_copies cX12_copies 2 none 0 := ⟨⟨lw_h8 80 rfl rfl, lw_gi 75 rfl rfl⟩, ⟨in_X12, lw_h8 81 rfl rfl, ⟨nh_RX12.1, nh_RX12.2, pd_0⟩⟩⟩
set_option maxRecDepth 100000 in
theorem kX12_arrives : KV yX12_arrives cX12_arrives 3 (some .int) 1 := ⟨⟨lw_h8 83 rfl rfl, lw_h8 84 rfl rfl⟩, ⟨in_X12, lw_h8 85 rfl rfl, ⟨nh_RX12.1, nh_RX12.2, pd_4⟩⟩⟩
set_option maxRecDepth 100000 in
theorem kX12_jam : KV yX12_jam cX12_jam 4 (some .int) 1 := ⟨⟨lw_h8 87 rfl rfl, lw_h8 88 rfl rfl⟩, ⟨in_X12, lw_h8 89 rfl rfl, ⟨nh_RX12.1, nh_RX12.2, pd_4⟩⟩⟩
set_option maxRecDepth 100000 in
theorem kX12_passes : KV yX12_passes cX12_passes 4 (some .int) 2 := ⟨⟨lw_h8 91 rfl rfl, lw_h8 92 rfl rfl⟩, ⟨in_X12, lw_h8 93 rfl rfl, ⟨nh_RX12.1, nh_RX12.2, pd_11⟩⟩⟩
set_option maxRecDepth 100000 in
theorem kX12_isAhead : KS yX12_isAhead cX12_isAhead 3 (some .boolean) 3 := ⟨lw_h8 95 rfl rfl, ⟨in_X12, lw_h8 96 rfl rfl, ⟨nh_RX12.1, nh_RX12.2, pd_62⟩⟩⟩
set_option maxRecDepth 100000 in
theorem kX12_ends : KV yX12_ends cX12_ends 3 (some .int) 1 := ⟨⟨lw_h8 98 rfl rfl, lw_h8 99 rfl rfl⟩, ⟨in_X12, lw_h8 100 rfl rfl, ⟨nh_RX12.1, nh_RX12.2, pd_4⟩⟩⟩
set_option maxRecDepth 100000 in
theorem kX12_right : KV yX12_right cX12_right 2 (some .int) 0 := ⟨⟨lw_h8 102 rfl rfl, lw_h8 103 rfl rfl⟩, ⟨in_X12, lw_h8 104 rfl rfl, ⟨nh_RX12.1, nh_RX12.2, pd_6⟩⟩⟩
set_option maxRecDepth 100000 in
theorem kX12_rightThen : KV yX12_rightThen cX12_rightThen 3 (some .int) 0 := ⟨⟨lw_h8 107 rfl rfl, lw_gi 76 rfl rfl⟩, ⟨in_X12, lw_h8 108 rfl rfl, ⟨nh_RX12.1, nh_RX12.2, pd_6⟩⟩⟩
set_option maxRecDepth 100000 in
theorem kX12_endedBy : KV yX12_endedBy cX12_endedBy 5 (some .int) 2 := ⟨⟨lw_h8 111 rfl rfl, lw_gi 77 rfl rfl⟩, ⟨in_X12, lw_h8 112 rfl rfl, ⟨nh_RX12.1, nh_RX12.2, pd_63⟩⟩⟩
set_option maxRecDepth 100000 in
theorem kX12_order : KV yX12_order cX12_order 2 (some .int) 0 := ⟨⟨lw_h8 114 rfl rfl, lw_h8 115 rfl rfl⟩, ⟨in_X12, lw_h8 116 rfl rfl, ⟨nh_RX12.1, nh_RX12.2, pd_6⟩⟩⟩
set_option maxRecDepth 100000 in
theorem kX12_places : KV yX12_places cX12_places 5 none 2 := ⟨⟨lw_h8 119 rfl rfl, lw_gi 78 rfl rfl⟩, ⟨in_X12, lw_h8 120 rfl rfl, ⟨nh_RX12.1, nh_RX12.2, pd_2⟩⟩⟩
set_option maxRecDepth 100000 in
theorem kX12_has : KS yX12_has cX12_has 2 (some .boolean) 2 := ⟨lw_h8 122 rfl rfl, ⟨in_X12, lw_h8 123 rfl rfl, ⟨nh_RX12.1, nh_RX12.2, pd_34⟩⟩⟩
set_option maxRecDepth 100000 in
theorem kX12_stands : KV yX12_stands cX12_stands 5 (some .int) 1 := ⟨⟨lw_h8 125 rfl rfl, lw_h8 126 rfl rfl⟩, ⟨in_X12, lw_h8 127 rfl rfl, ⟨nh_RX12.1, nh_RX12.2, pd_4⟩⟩⟩
set_option maxRecDepth 100000 in
theorem kX12_when : KV yX12_when cX12_when 7 (some .int) 1 := ⟨⟨lw_h8 129 rfl rfl, lw_h8 130 rfl rfl⟩, ⟨in_X12, lw_h8 131 rfl rfl, ⟨nh_RX12.1, nh_RX12.2, pd_4⟩⟩⟩
set_option maxRecDepth 100000 in
theorem kX12_mends : KV yX12_mends cX12_mends 7 (some .int) 1 := ⟨⟨lw_h8 133 rfl rfl, lw_h8 134 rfl rfl⟩, ⟨in_X12, lw_h8 135 rfl rfl, ⟨nh_RX12.1, nh_RX12.2, pd_4⟩⟩⟩
set_option maxRecDepth 100000 in
theorem kX12_misleads : KV yX12_misleads cX12_misleads 6 (some .int) 0 := ⟨⟨lw_h8 138 rfl rfl, lw_h8 139 rfl rfl⟩, ⟨in_X12, lw_h8 140 rfl rfl, ⟨nh_RX12.1, nh_RX12.2, pd_6⟩⟩⟩
set_option maxRecDepth 100000 in
theorem kX12_crowd : KV yX12_crowd cX12_crowd 3 (some .int) 0 := ⟨⟨lw_h8 142 rfl rfl, lw_h8 143 rfl rfl⟩, ⟨in_X12, lw_h8 144 rfl rfl, ⟨nh_RX12.1, nh_RX12.2, pd_6⟩⟩⟩
set_option maxRecDepth 100000 in
theorem kX12_shares : KV yX12_shares cX12_shares 3 (some .int) 1 := ⟨⟨lw_h8 146 rfl rfl, lw_h8 147 rfl rfl⟩, ⟨in_X12, lw_h8 148 rfl rfl, ⟨nh_RX12.1, nh_RX12.2, pd_4⟩⟩⟩
set_option maxRecDepth 100000 in
theorem kX12_sharesFrom : KV yX12_sharesFrom cX12_sharesFrom 6 none 4 := ⟨⟨lw_h8 152 rfl rfl, lw_gi 79 rfl rfl⟩, ⟨in_X12, lw_h8 153 rfl rfl, ⟨nh_RX12.1, nh_RX12.2, pd_64⟩⟩⟩
set_option maxRecDepth 100000 in
theorem kX12_strangers : KV yX12_strangers cX12_strangers 7 (some .int) 0 := ⟨⟨lw_h8 155 rfl rfl, lw_h8 156 rfl rfl⟩, ⟨in_X12, lw_h8 157 rfl rfl, ⟨nh_RX12.1, nh_RX12.2, pd_6⟩⟩⟩
set_option maxRecDepth 100000 in
theorem kX12_doubts : KV yX12_doubts cX12_doubts 6 (some .int) 0 := ⟨⟨lw_h8 159 rfl rfl, lw_h8 160 rfl rfl⟩, ⟨in_X12, lw_h8 161 rfl rfl, ⟨nh_RX12.1, nh_RX12.2, pd_6⟩⟩⟩
set_option maxRecDepth 100000 in
theorem kX12_heard : KV yX12_heard cX12_heard 4 (some .int) 2 := ⟨⟨lw_h8 163 rfl rfl, lw_h8 164 rfl rfl⟩, ⟨in_X12, lw_h8 165 rfl rfl, ⟨nh_RX12.1, nh_RX12.2, pd_11⟩⟩⟩
set_option maxRecDepth 100000 in
theorem kX12_forget : KV yX12_forget cX12_forget 2 (some .int) 0 := ⟨⟨lw_h8 167 rfl rfl, lw_h8 168 rfl rfl⟩, ⟨in_X12, lw_h8 169 rfl rfl, ⟨nh_RX12.1, nh_RX12.2, pd_6⟩⟩⟩
set_option maxRecDepth 100000 in
theorem kX12_fits : KV yX12_fits cX12_fits 5 (some .int) 0 := ⟨⟨lw_h8 171 rfl rfl, lw_h8 172 rfl rfl⟩, ⟨in_X12, lw_h8 173 rfl rfl, ⟨nh_RX12.1, nh_RX12.2, pd_6⟩⟩⟩
set_option maxRecDepth 100000 in
theorem kX12_isSo : KV yX12_isSo cX12_isSo 4 (some .boolean) 3 := ⟨⟨lw_h8 176 rfl rfl, lw_gi 80 rfl rfl⟩, ⟨in_X12, lw_h8 177 rfl rfl, ⟨nh_RX12.1, nh_RX12.2, pd_46⟩⟩⟩
set_option maxRecDepth 100000 in
theorem kX12_rains : KV yX12_rains cX12_rains 12 (some .int) 3 := ⟨⟨lw_h8 179 rfl rfl, lw_h8 180 rfl rfl⟩, ⟨in_X12, lw_h8 181 rfl rfl, ⟨nh_RX12.1, nh_RX12.2, pd_28⟩⟩⟩
set_option maxRecDepth 100000 in
theorem kX12_common : KS yX12_common cX12_common 4 (some .long) 2 := ⟨lw_h8 185 rfl rfl, ⟨in_X12, lw_h8 186 rfl rfl, ⟨nh_RX12.1, nh_RX12.2, pd_45⟩⟩⟩
set_option maxRecDepth 100000 in
theorem kX12_law : KV yX12_law cX12_law 5 (some .int) 0 := ⟨⟨lw_h8 188 rfl rfl, lw_h8 189 rfl rfl⟩, ⟨in_X12, lw_h8 190 rfl rfl, ⟨nh_RX12.1, nh_RX12.2, pd_6⟩⟩⟩
set_option maxRecDepth 100000 in
theorem kX12_rests : KV yX12_rests cX12_rests 5 (some .int) 1 := ⟨⟨lw_h8 192 rfl rfl, lw_h8 193 rfl rfl⟩, ⟨in_X12, lw_h8 194 rfl rfl, ⟨nh_RX12.1, nh_RX12.2, pd_4⟩⟩⟩
set_option maxRecDepth 100000 in
theorem kX12_isRest : KS yX12_isRest cX12_isRest 5 (some .boolean) 3 := ⟨lw_h8 197 rfl rfl, ⟨in_X12, lw_h8 198 rfl rfl, ⟨nh_RX12.1, nh_RX12.2, pd_46⟩⟩⟩
set_option maxRecDepth 100000 in
theorem kX12_gets : KS yX12_gets cX12_gets 3 (some .int) 3 := ⟨lw_h8 200 rfl rfl, ⟨in_X12, lw_h8 201 rfl rfl, ⟨nh_RX12.1, nh_RX12.2, pd_28⟩⟩⟩
set_option maxRecDepth 100000 in
theorem kX12_years : KV yX12_years cX12_years 6 (some .int) 2 := ⟨⟨lw_h8 203 rfl rfl, lw_h8 204 rfl rfl⟩, ⟨in_X12, lw_h8 205 rfl rfl, ⟨nh_RX12.1, nh_RX12.2, pd_11⟩⟩⟩
set_option maxRecDepth 100000 in
theorem kX12_draws : KV yX12_draws cX12_draws 2 (some .int) 1 := ⟨⟨lw_h8 208 rfl rfl, lw_gi 81 rfl rfl⟩, ⟨in_X12, lw_h8 209 rfl rfl, ⟨nh_RX12.1, nh_RX12.2, pd_4⟩⟩⟩
set_option maxRecDepth 100000 in
theorem kX12_keep : KV yX12_keep cX12_keep 3 (some .boolean) 1 := ⟨⟨lw_h8 212 rfl rfl, lw_h8 213 rfl rfl⟩, ⟨in_X12, lw_h8 214 rfl rfl, ⟨nh_RX12.1, nh_RX12.2, pd_5⟩⟩⟩
set_option maxRecDepth 100000 in
theorem kX12_again : KV yX12_again cX12_again 3 (some .boolean) 1 := ⟨⟨lw_h8 217 rfl rfl, lw_h8 218 rfl rfl⟩, ⟨in_X12, lw_h8 219 rfl rfl, ⟨nh_RX12.1, nh_RX12.2, pd_5⟩⟩⟩
set_option maxRecDepth 100000 in
theorem kX12_count : KV yX12_count cX12_count 4 (some .int) 1 := ⟨⟨lw_h8 221 rfl rfl, lw_h8 222 rfl rfl⟩, ⟨in_X12, lw_h8 223 rfl rfl, ⟨nh_RX12.1, nh_RX12.2, pd_4⟩⟩⟩
set_option maxRecDepth 100000 in
theorem kX12_row : KV yX12_row cX12_row 2 (some .long) 1 := ⟨⟨lw_h8 225 rfl rfl, lw_h8 226 rfl rfl⟩, ⟨in_X12, lw_h8 227 rfl rfl, ⟨nh_RX12.1, nh_RX12.2, pd_47⟩⟩⟩
end
