/-! BASE. Ints are written iI of an Int, arrays ar of a function on Int; the kit's rows in these words. -/
def iI (z : Int) : Int32 := Int32.ofInt z
def lI (z : Int) : Int64 := Int64.ofInt z
abbrev iR (z : Int) : Prop := -2147483648 ≤ z ∧ z ≤ 2147483647
abbrev lR (z : Int) : Prop := -9223372036854775808 ≤ z ∧ z ≤ 9223372036854775807
theorem iI_add (a b : Int) : iI a + iI b = iI (a + b) := (Int32.ofInt_add a b).symm
theorem iI_sub (a b : Int) : iI a - iI b = iI (a - b) := (Int32.ofInt_sub a b).symm
theorem iI_mul (a b : Int) : iI a * iI b = iI (a * b) := (Int32.ofInt_mul a b).symm
theorem iI_neg (a : Int) : - iI a = iI (-a) := (Int32.ofInt_neg a).symm
theorem lI_add (a b : Int) : lI a + lI b = lI (a + b) := (Int64.ofInt_add a b).symm
theorem lI_mul (a b : Int) : lI a * lI b = lI (a * b) := (Int64.ofInt_mul a b).symm
theorem iI_toInt {z : Int} (h : iR z) : (iI z).toInt = z := Int32.toInt_ofInt_of_le (by omega) (by omega)
theorem lI_toInt {z : Int} (h : lR z) : (lI z).toInt = z := Int64.toInt_ofInt_of_le (by omega) (by omega)
theorem iI_of (x : Int32) : ∃ z : Int, iR z ∧ x = iI z := ⟨x.toInt, ⟨by have := Int32.le_toInt x; omega, by have := Int32.toInt_lt x; omega⟩, (Int32.ofInt_toInt x).symm⟩
theorem lI_of (x : Int64) : ∃ z : Int, lR z ∧ x = lI z := ⟨x.toInt, ⟨by have := Int64.le_toInt x; omega, by have := Int64.toInt_lt x; omega⟩, (Int64.ofInt_toInt x).symm⟩
theorem iI_lt {a b : Int} (ha : iR a) (hb : iR b) : iI a < iI b ↔ a < b := by rw [Int32.lt_iff_toInt_lt, iI_toInt ha, iI_toInt hb]
theorem iI_le {a b : Int} (ha : iR a) (hb : iR b) : iI a ≤ iI b ↔ a ≤ b := by rw [Int32.le_iff_toInt_le, iI_toInt ha, iI_toInt hb]
theorem iI_eq {a b : Int} (ha : iR a) (hb : iR b) : iI a = iI b ↔ a = b := by rw [← Int32.toInt_inj, iI_toInt ha, iI_toInt hb]
theorem lI_lt {a b : Int} (ha : lR a) (hb : lR b) : lI a < lI b ↔ a < b := by rw [Int64.lt_iff_toInt_lt, lI_toInt ha, lI_toInt hb]
theorem lI_eq {a b : Int} (ha : lR a) (hb : lR b) : lI a = lI b ↔ a = b := by rw [← Int64.toInt_inj, lI_toInt ha, lI_toInt hb]
theorem iI_clamp {z : Int} (h : iR z) : (iI z).toNatClampNeg = z.toNat := by
  show (iI z).toInt.toNat = _
  rw [iI_toInt h]
theorem iI_in {z : Int} {n : Nat} (h0 : 0 ≤ z) (h1 : z < (n : Int)) (hn : n ≤ 2147483647) : vp_in (iI z) n := vp_in_iff.mpr (by rw [iI_toInt ⟨by omega, by omega⟩]; exact ⟨h0, h1⟩)
theorem iI_z : (0 : Int32) = iI 0 := rfl
theorem iI_nn {z : Int} (h : iR z) (h0 : 0 ≤ z) : ¬ iI z < 0 := by rw [iI_z, iI_lt h (by decide)]; omega
theorem iI_nz {z : Int} (h : iR z) (h0 : ¬ z = 0) : ¬ iI z = 0 := by rw [iI_z, iI_eq h (by decide)]; exact h0
theorem iI_long {z : Int} (h : iR z) : (iI z).toInt64 = lI z := by
  rw [← Int64.toInt_inj, Int32.toInt_toInt64, iI_toInt h, lI_toInt ⟨by omega, by omega⟩]
def ar (g : Int → Int) : Nat → Int32 := fun k => iI (g k)
def arL (g : Int → Int) : Nat → Int64 := fun k => lI (g k)
def up (g : Int → Int) (e v : Int) : Int → Int := fun j => if j = e then v else g j
def cpy (f g : Int → Int) (n : Int) : Int → Int := fun j => if 0 ≤ j ∧ j < n then f j else g j
theorem ar_get (g : Int → Int) {e : Int} (h0 : 0 ≤ e) (h1 : e ≤ 2147483647) : ar g (iI e).toNatClampNeg = iI (g e) := by
  rw [iI_clamp ⟨by omega, h1⟩]
  show iI (g (e.toNat : Int)) = _
  rw [Int.toNat_of_nonneg h0]
theorem arL_get (g : Int → Int) {e : Int} (h0 : 0 ≤ e) (h1 : e ≤ 2147483647) : arL g (iI e).toNatClampNeg = lI (g e) := by
  rw [iI_clamp ⟨by omega, h1⟩]
  show lI (g (e.toNat : Int)) = _
  rw [Int.toNat_of_nonneg h0]
theorem ar_set (g : Int → Int) {e v : Int} (h0 : 0 ≤ e) (h1 : e ≤ 2147483647) : upd (ar g) (iI e).toNatClampNeg (iI v) = ar (up g e v) := by
  rw [iI_clamp ⟨by omega, h1⟩]
  funext k
  by_cases h : k = e.toNat
  · subst h
    rw [show upd (ar g) e.toNat (iI v) e.toNat = iI v from pk_us]
    show _ = iI (if ((e.toNat : Nat) : Int) = e then v else g _)
    rw [if_pos (Int.toNat_of_nonneg h0)]
  · rw [pk_un h]
    show iI (g k) = iI (if (k : Int) = e then v else g k)
    rw [if_neg (by omega)]
theorem arL_set (g : Int → Int) {e v : Int} (h0 : 0 ≤ e) (h1 : e ≤ 2147483647) : vp_updL (arL g) (iI e).toNatClampNeg (lI v) = arL (up g e v) := by
  rw [iI_clamp ⟨by omega, h1⟩]
  funext k
  by_cases h : k = e.toNat
  · subst h
    rw [pk_uLs]
    show _ = lI (if ((e.toNat : Nat) : Int) = e then v else g _)
    rw [if_pos (Int.toNat_of_nonneg h0)]
  · rw [pk_uLn h]
    show lI (g k) = lI (if (k : Int) = e then v else g k)
    rw [if_neg (by omega)]
theorem ar_cpy (f g : Int → Int) {n : Int} (h0 : 0 ≤ n) (h1 : n ≤ 2147483647) : va_cpy (ar f) (ar g) (iI 0).toNatClampNeg (iI 0).toNatClampNeg (iI n).toNatClampNeg = ar (cpy f g n) := by
  rw [iI_clamp (show iR 0 by decide), iI_clamp ⟨by omega, h1⟩]
  funext k
  by_cases h : (k : Int) < n
  · rw [pk_cpy_in (by simp) (by simp; omega)]
    show iI (f _) = iI (if 0 ≤ (k : Int) ∧ (k : Int) < n then f k else g k)
    rw [if_pos ⟨by omega, h⟩]
    simp
  · rw [pk_cpy_out (Or.inr (by simp; omega))]
    show iI (g k) = iI (if 0 ≤ (k : Int) ∧ (k : Int) < n then f k else g k)
    rw [if_neg (by omega)]
-- the words: the whole table that may go over a call
def lw_good : List Cond := lw_tbl.filter goodWord
def lw_w (y : MethodName) (b : ByteArray) (n : Nat) (r : Option FieldType) : List Cond := .code y b n r :: lw_good
theorem lw_gi (i : Nat) {w : Cond} (h : lw_tbl[i]? = some w) (hg : goodWord w = true) : w ∈ lw_good := List.mem_filter.mpr ⟨List.mem_of_getElem? h, hg⟩
theorem lw_gt {w : Cond} (h : w ∈ lw_good) : w ∈ lw_tbl := (List.mem_filter.mp h).1
theorem lw_gg {w : Cond} (h : w ∈ lw_good) : (w.onTables && w.keeps) = true ∨ ∃ ty, w = .arrayClass ty := good_of_word (List.mem_filter.mp h).2
theorem lw_gl {ws : List Cond} (h : ws.all (fun w => decide (w ∈ lw_tbl) && goodWord w) = true) : ∀ w ∈ ws, w ∈ lw_good := fun w hw => by
  have h1 := List.all_eq_true.mp h w hw
  rw [Bool.and_eq_true] at h1
  exact List.mem_filter.mpr ⟨of_decide_eq_true h1.1, h1.2⟩
theorem g_good {big ws : List Cond} (hb : ∀ w ∈ lw_good, w ∈ big) (h : ∀ w ∈ ws, w ∈ lw_good) : GoodIn big ws := fun w hw => ⟨hb w (h w hw), lw_gg (h w hw)⟩
-- the kinds of arrays
abbrev ty5 (τ : Nat → ClassId) : List (ClassId × FieldType) := [(τ 0, .int), (τ 1, .long), (τ 2, .boolean), (τ 3, .object "BehindAnotherHearse$Scene"), (τ 4, .array .int)]
theorem AOA_spec {t : FieldType} {U : State} (h : va_AOA t U) : ∃ comp c k, U.vm.findClass (FieldType.array t).toString = some comp ∧ (U.vm.classes.findIdx? fun x => match x.kind with | .array component _ => component == comp | _ => false) = some c ∧ U.vm.classes[c]? = some k ∧ k.kind = .array comp (.array t) ∧ U.vm.findClass ("[" ++ (FieldType.array t).toString) = some c := by
  have h : (Cond.arrayOver (.array t)).holds #[] U none U [] = true := h
  simp only [Cond.holds, Cond.value, beq_iff_eq] at h
  cases hc : U.vm.findClass (FieldType.array t).toString with
  | none => simp [hc] at h
  | some comp =>
    simp only [hc, Option.bind_some, Option.bind_eq_some_iff, Option.map_eq_some_iff] at h
    obtain ⟨c, hi, k, hk, hb⟩ := h
    obtain ⟨hlt, hp, -⟩ := Array.findIdx?_eq_some_iff_getElem.mp hi
    have hkk : U.vm.classes[c] = k := (Array.getElem?_eq_some_iff.mp hk).2
    rw [hkk] at hp
    cases hkind : k.kind with
    | array component ty =>
      rw [hkind] at hb hp
      simp at hb hp
      exact ⟨comp, c, k, rfl, hi, hk, by rw [hkind, hp, hb.1], hb.2⟩
    | _ => rw [hkind] at hb; simp at hb
theorem va_AOA.moved {t : FieldType} {u U : State} (hvm : u.vm.Alike U.vm) (h : va_AOA t u) : va_AOA t U := by
  obtain ⟨comp, c, k, h1, h2, h3, h4, h5⟩ := AOA_spec h
  obtain ⟨k', hk', he⟩ := hvm.2.2 _ _ h3
  have hi : (U.vm.classes.findIdx? fun (x : Class) => match x.kind with | .array component _ => component == comp | _ => false) = some c := by
    have e1 := va_idx_bare U.vm comp
    have e2 := va_idx_bare u.vm comp
    have e3 := hvm.bare_eq
    first | rw [e3] at e1 | rw [← e3] at e1
    exact e1.symm.trans (e2.trans h2)
  have hkind : k'.kind = .array comp (.array t) := by rw [he]; exact h4
  have f1 : U.vm.findClass (FieldType.array t).toString = some comp := by rw [hvm.findClass]; exact h1
  have f2 : U.vm.findClass ("[" ++ (FieldType.array t).toString) = some c := by rw [hvm.findClass]; exact h5
  unfold va_AOA Cond.before Cond.holds
  simp only [Cond.value]
  rw [f1, Option.bind_some]
  refine (congrArg (fun o : Option Nat => (o.bind (fun c => (U.vm.classes[c]?).map fun (k : Class) => match k.kind with | .array _ ty => decide (ty = FieldType.array t) && decide (U.vm.findClass ("[" ++ (FieldType.array t).toString) = some c) | _ => false) == some true)) hi).trans ?_
  simp [hk', hkind, f2]
def isNest : Cond → Bool
  | .fieldLinkNest _ _ _ _ _ _ => true
  | .methodLinkNest _ _ _ _ => true
  | .declares _ => true
  | .castable _ _ => true
  | _ => false
def lw_nest : List Cond := lw_tbl.filter isNest
theorem lw_ni (i : Nat) {w : Cond} (h : lw_tbl[i]? = some w) (hg : isNest w = true) : w ∈ lw_nest := List.mem_filter.mpr ⟨List.mem_of_getElem? h, hg⟩
/-- the words that go over a call by rows of their own -/
def NXw (U : State) : Prop := ∀ w ∈ lw_nest, va_Nw w U
def NX (U : State) : Prop := NXw U ∧ va_AO "BehindAnotherHearse$Scene" U ∧ va_AOA .int U
theorem NXw.same {u U : State} (h : u.vm = U.vm) (hN : NXw u) : NXw U := fun w hw => by
  have h1 := (List.mem_filter.mp hw).2
  have h2 := hN w hw
  revert h1 h2
  cases w <;> intro h1 h2 <;> first | exact absurd h1 Bool.false_ne_true | exact va_Nw.same rfl h h2 | (simp [isNest] at h1)
theorem NXw.warm {s U : State} (hW : s.WarmedH U.vm) (hN : NXw s) : NXw U := fun w hw => by
  have h1 := (List.mem_filter.mp hw).2
  have h2 := hN w hw
  revert h1 h2
  cases w <;> intro h1 h2 <;> first | exact absurd h1 Bool.false_ne_true | exact va_Nw.warmF hW h2  | exact va_Nw.warmM hW h2 | exact va_Nw.warmD hW h2 | exact va_Nw.warmC hW h2 | (simp [isNest] at h1)
theorem NX.same {u U : State} (h : u.vm = U.vm) (hN : NX u) : NX U := ⟨hN.1.same h, hN.2.1.moved (by rw [h]; exact Vm.Alike.refl _), hN.2.2.moved (by rw [h]; exact Vm.Alike.refl _)⟩
theorem NX.warm {s U : State} (hW : s.WarmedH U.vm) (hN : NX s) : NX U := ⟨hN.1.warm hW, hN.2.1.moved hW.alike, hN.2.2.moved hW.alike⟩
def cx (D : va_G) (τ : Nat → ClassId) (s : State) (m : MethodId) (args : Array Value) (own : String) : Prop := (∀ w ∈ lw_good, w.before args s = true) ∧ s.vm.findClass own = some m.cls ∧ va_K D vwCl (ty5 τ) s ∧ NX s
def wS (D : va_G) (A : Nat → Prop) (H0 : Heap) (ws : va_W) (H : Heap) (locs : List Loc) : Prop := va_P D vwCl ws H ∧ va_D A ws ∧ va_S A H0 H locs
abbrev rmk (k mc ms : Nat) : Room := { frames := k, cells := mc, slots := ms, locals := 64 * k }
def gPre (D : va_G) (τ : Nat → ClassId) (wc : va_W) (sz : Nat) : State → Prop := fun U => U.heap.size = sz ∧ va_P D vwCl wc U.heap ∧ (va_K D vwCl (ty5 τ) U ∧ NX U) ∧ va_D (fun _ => True) wc
abbrev gPc (D : va_G) (τ : Nat → ClassId) (wc : va_W) (sz : Nat) (As : List Value) : Array Value → State → Prop := va_Pc As (gPre D τ wc sz)
def gW (D : va_G) (A : Nat → Prop) (E : va_W → Prop) (t : State) : Prop := ∃ ws' : va_W, E ws' ∧ va_P D vwCl ws' t.heap ∧ va_D A ws'
def gQi (D : va_G) (E : Int → va_W → Prop) (A : Nat → Prop) : Array Value → State → Outcome → State → Prop := va_Qi (fun r u => r = u) (fun r t => ∃ z : Int, iR z ∧ r = iI z ∧ gW D A (E z) t) A
def gQl (D : va_G) (E : Int → va_W → Prop) (A : Nat → Prop) : Array Value → State → Outcome → State → Prop := va_Ql (fun r u => r = u) (fun r t => ∃ z : Int, lR z ∧ r = lI z ∧ gW D A (E z) t) A
def gQv (D : va_G) (E : va_W → Prop) (A : Nat → Prop) : Array Value → State → Outcome → State → Prop := va_Qv (fun _ : Unit => True) (fun _ t => gW D A E t) A
theorem gPc_blind {D : va_G} {τ : Nat → ClassId} {wc : va_W} {sz : Nat} {As : List Value} : FrameBlind (gPc D τ wc sz As) := fun a U g mk q => by
  obtain ⟨q0, q1, qP, qK, qD⟩ := q
  exact ⟨q0, q1, qP, ⟨va_K.moved (u := U) (U := U.calling g mk a) (Vm.Alike.refl U.vm) qK.1, NX.same (u := U) (U := U.calling g mk a) rfl qK.2⟩, qD⟩
/-- a contract out of a walk of its body -/
theorem g_met {l : Launch} {y : MethodName} {b : ByteArray} {mL k mc ms sz : Nat} {ret : Option FieldType} {D : va_G} {τ : Nat → ClassId} {wc : va_W} {As : List Value} {Qc : (Nat → Prop) → Array Value → State → Outcome → State → Prop} (hpl : plainName y.cls = true) (hn : (lg_sl As).length ≤ mL)
    (body : ∀ (p : Program) (e : Env) (s : State) (m : MethodId) (args : Array Value) (below : List Frame) (meth : Method) (c : Code) (A : Nat → Prop) (ls : Array Slot), p.tables.exec = Jvm.exec → c.code = b → c.maxLocals = mL → meth.sig.returnType = ret → meth.locks = false → meth.name = y.name → cx D τ s m args y.cls → (∀ q : Nat, s.heap.size ≤ q → A q) → wS D A s.heap wc s.heap [] → lv_has ls mL (lv_args 0 As) →
      W p l e (rmk k mc ms) s m args below meth c s.heap [] 0 0 (MQ below (Qc A) args s mc ms A) (F0 m 0 ls [])) :
    Met l y (lw_w y b mL ret) (rmk k mc ms) (gPc D τ wc sz As) (Qc (va_A wc sz)) mc ms (va_A wc sz) := by
  refine Met.ofW (cc := b) (maxL := mL) (ret := ret) hpl rfl ?_
  intro p e s m args below meth c s₁ B hml hv
  obtain ⟨rfl, hsz, hP, hK, hD0⟩ := hv
  have hts := atoms_spec (ws := lw_w y b mL ret) B.pre
  have hown : s.vm.findClass y.cls = some m.cls := findClass_of_methodNamed B.named
  subst hsz
  have hl := lv_entry As (n := mL) hn
  rw [lg_entry_eq]
  exact body p e s m _ below meth c (va_A wc s.heap.size) _ B.exec B.bytes hml B.returns B.notSynchronized (name_of_methodNamed B.named B.method).1 ⟨fun w hw => hts w (List.mem_cons_of_mem _ hw), hown, hK.1, hK.2⟩ (fun q h => Or.inr h) ⟨hP, hD0.self, va_S.rf⟩ hl
section RW
variable {p : Program} {l : Launch} {e : Env} {R : Room} {s : State} {m : MethodId} {args : Array Value} {below : List Frame} {meth : Method} {c : Code} {H : Heap} {locs : List Loc} {cells slots : Nat} {Q : State → Prop}
variable {cc : ByteArray} {pc : Nat} {ls : Array Slot} {rest : List Value} {D : va_G} {A : Nat → Prop} {a : Nat} {ws : va_W} {H0 : Heap} {τ : Nat → ClassId} {own : String}

theorem r_iadd (hx : p.tables.exec = Jvm.exec) (hb : c.code = cc) {a b z : Int} (hd : decode cc pc = .ok (.iadd, 1)) (hz : a + b = z) (k : W p l e R s m args below meth c H locs cells slots Q (F0 m (pc + 1) ls (.int (iI z) :: rest))) : W p l e R s m args below meth c H locs cells slots Q (F0 m pc ls (.int (iI b) :: .int (iI a) :: rest)) := lv_iadd hx hb hd (by rw [iI_add, hz]; exact k)
theorem r_isub (hx : p.tables.exec = Jvm.exec) (hb : c.code = cc) {a b z : Int} (hd : decode cc pc = .ok (.isub, 1)) (hz : a - b = z) (k : W p l e R s m args below meth c H locs cells slots Q (F0 m (pc + 1) ls (.int (iI z) :: rest))) : W p l e R s m args below meth c H locs cells slots Q (F0 m pc ls (.int (iI b) :: .int (iI a) :: rest)) := lv_isub hx hb hd (by rw [iI_sub, hz]; exact k)
theorem r_imul (hx : p.tables.exec = Jvm.exec) (hb : c.code = cc) {a b z : Int} (hd : decode cc pc = .ok (.imul, 1)) (hz : a * b = z) (k : W p l e R s m args below meth c H locs cells slots Q (F0 m (pc + 1) ls (.int (iI z) :: rest))) : W p l e R s m args below meth c H locs cells slots Q (F0 m pc ls (.int (iI b) :: .int (iI a) :: rest)) := lv_imul hx hb hd (by rw [iI_mul, hz]; exact k)
theorem r_ladd (hx : p.tables.exec = Jvm.exec) (hb : c.code = cc) {a b z : Int} (hd : decode cc pc = .ok (.ladd, 1)) (hz : a + b = z) (k : W p l e R s m args below meth c H locs cells slots Q (F0 m (pc + 1) ls (.long (lI z) :: rest))) : W p l e R s m args below meth c H locs cells slots Q (F0 m pc ls (.long (lI b) :: .long (lI a) :: rest)) := lv_ladd hx hb hd (by rw [lI_add, hz]; exact k)
theorem r_lmul (hx : p.tables.exec = Jvm.exec) (hb : c.code = cc) {a b z : Int} (hd : decode cc pc = .ok (.lmul, 1)) (hz : a * b = z) (k : W p l e R s m args below meth c H locs cells slots Q (F0 m (pc + 1) ls (.long (lI z) :: rest))) : W p l e R s m args below meth c H locs cells slots Q (F0 m pc ls (.long (lI b) :: .long (lI a) :: rest)) := lv_lmul hx hb hd (by rw [lI_mul, hz]; exact k)
theorem r_ineg (hx : p.tables.exec = Jvm.exec) (hb : c.code = cc) {a z : Int} (hd : decode cc pc = .ok (.ineg, 1)) (hz : -a = z) (k : W p l e R s m args below meth c H locs cells slots Q (F0 m (pc + 1) ls (.int (iI z) :: rest))) : W p l e R s m args below meth c H locs cells slots Q (F0 m pc ls (.int (iI a) :: rest)) := lv_ineg hx hb hd (by rw [iI_neg, hz]; exact k)
theorem r_iconst (hx : p.tables.exec = Jvm.exec) (hb : c.code = cc) {n : Int} (hd : decode cc pc = .ok (.iconst n, 1)) (k : W p l e R s m args below meth c H locs cells slots Q (F0 m (pc + 1) ls (.int (iI n) :: rest))) : W p l e R s m args below meth c H locs cells slots Q (F0 m pc ls rest) := lv_iconst hx hb hd rfl k
theorem r_bipush (hx : p.tables.exec = Jvm.exec) (hb : c.code = cc) {n : Int} (hd : decode cc pc = .ok (.bipush n, 2)) (hv : (Int8.ofInt n).toInt32 = iI n) (k : W p l e R s m args below meth c H locs cells slots Q (F0 m (pc + 2) ls (.int (iI n) :: rest))) : W p l e R s m args below meth c H locs cells slots Q (F0 m pc ls rest) := lv_bipush hx hb hd hv k
theorem r_sipush (hx : p.tables.exec = Jvm.exec) (hb : c.code = cc) {n : Int} (hd : decode cc pc = .ok (.sipush n, 3)) (hv : (Int16.ofInt n).toInt32 = iI n) (k : W p l e R s m args below meth c H locs cells slots Q (F0 m (pc + 3) ls (.int (iI n) :: rest))) : W p l e R s m args below meth c H locs cells slots Q (F0 m pc ls rest) := lv_sipush hx hb hd hv k
theorem r_lconst (hx : p.tables.exec = Jvm.exec) (hb : c.code = cc) {n : Fin 2} {z : Int} (hd : decode cc pc = .ok (.lconst n, 1)) (hv : Int64.ofNat (n : Nat) = lI z) (k : W p l e R s m args below meth c H locs cells slots Q (F0 m (pc + 1) ls (.long (lI z) :: rest))) : W p l e R s m args below meth c H locs cells slots Q (F0 m pc ls rest) := lv_lconst hx hb hd hv k
theorem r_i2l (hx : p.tables.exec = Jvm.exec) (hb : c.code = cc) {a : Int} (hd : decode cc pc = .ok (.i2l, 1)) (h : iR a) (k : W p l e R s m args below meth c H locs cells slots Q (F0 m (pc + 1) ls (.long (lI a) :: rest))) : W p l e R s m args below meth c H locs cells slots Q (F0 m pc ls (.int (iI a) :: rest)) := lv_i2l hx hb hd (iI_long h) k
theorem r_iand (hx : p.tables.exec = Jvm.exec) (hb : c.code = cc) {a b : Int} (hd : decode cc pc = .ok (.iand, 1)) (k : ∀ z : Int, iR z → iI a &&& iI b = iI z → W p l e R s m args below meth c H locs cells slots Q (F0 m (pc + 1) ls (.int (iI z) :: rest))) : W p l e R s m args below meth c H locs cells slots Q (F0 m pc ls (.int (iI b) :: .int (iI a) :: rest)) := by
  obtain ⟨z, h1, h2⟩ := iI_of (iI a &&& iI b)
  exact lv_iand hx hb hd (by rw [h2]; exact k z h1 h2)
theorem r_ior (hx : p.tables.exec = Jvm.exec) (hb : c.code = cc) {a b : Int} (hd : decode cc pc = .ok (.ior, 1)) (k : ∀ z : Int, iR z → iI a ||| iI b = iI z → W p l e R s m args below meth c H locs cells slots Q (F0 m (pc + 1) ls (.int (iI z) :: rest))) : W p l e R s m args below meth c H locs cells slots Q (F0 m pc ls (.int (iI b) :: .int (iI a) :: rest)) := by
  obtain ⟨z, h1, h2⟩ := iI_of (iI a ||| iI b)
  exact lv_ior hx hb hd (by rw [h2]; exact k z h1 h2)
theorem r_ixor (hx : p.tables.exec = Jvm.exec) (hb : c.code = cc) {a b : Int} (hd : decode cc pc = .ok (.ixor, 1)) (k : ∀ z : Int, iR z → iI a ^^^ iI b = iI z → W p l e R s m args below meth c H locs cells slots Q (F0 m (pc + 1) ls (.int (iI z) :: rest))) : W p l e R s m args below meth c H locs cells slots Q (F0 m pc ls (.int (iI b) :: .int (iI a) :: rest)) := by
  obtain ⟨z, h1, h2⟩ := iI_of (iI a ^^^ iI b)
  exact lv_ixor hx hb hd (by rw [h2]; exact k z h1 h2)
theorem r_ishl (hx : p.tables.exec = Jvm.exec) (hb : c.code = cc) {a b : Int} (hd : decode cc pc = .ok (.ishl, 1)) (k : ∀ z : Int, iR z → iI a <<< (iI b &&& 31) = iI z → W p l e R s m args below meth c H locs cells slots Q (F0 m (pc + 1) ls (.int (iI z) :: rest))) : W p l e R s m args below meth c H locs cells slots Q (F0 m pc ls (.int (iI b) :: .int (iI a) :: rest)) := by
  obtain ⟨z, h1, h2⟩ := iI_of (iI a <<< (iI b &&& 31))
  exact lv_ishl hx hb hd (by rw [h2]; exact k z h1 h2)
theorem r_ishr (hx : p.tables.exec = Jvm.exec) (hb : c.code = cc) {a b : Int} (hd : decode cc pc = .ok (.ishr, 1)) (k : ∀ z : Int, iR z → iI a >>> (iI b &&& 31) = iI z → W p l e R s m args below meth c H locs cells slots Q (F0 m (pc + 1) ls (.int (iI z) :: rest))) : W p l e R s m args below meth c H locs cells slots Q (F0 m pc ls (.int (iI b) :: .int (iI a) :: rest)) := by
  obtain ⟨z, h1, h2⟩ := iI_of (iI a >>> (iI b &&& 31))
  exact lv_ishr hx hb hd (by rw [h2]; exact k z h1 h2)
theorem r_iushr (hx : p.tables.exec = Jvm.exec) (hb : c.code = cc) {a b : Int} (hd : decode cc pc = .ok (.iushr, 1)) (k : ∀ z : Int, iR z → ((iI a).toUInt32 >>> ((iI b).toUInt32 &&& Int32.toUInt32 31)).toInt32 = iI z → W p l e R s m args below meth c H locs cells slots Q (F0 m (pc + 1) ls (.int (iI z) :: rest))) : W p l e R s m args below meth c H locs cells slots Q (F0 m pc ls (.int (iI b) :: .int (iI a) :: rest)) := by
  obtain ⟨z, h1, h2⟩ := iI_of (((iI a).toUInt32 >>> ((iI b).toUInt32 &&& Int32.toUInt32 31)).toInt32)
  exact lv_iushr hx hb hd h2 (k z h1 h2)
theorem r_idiv (hx : p.tables.exec = Jvm.exec) (hb : c.code = cc) {a b : Int} (hd : decode cc pc = .ok (.idiv, 1)) (hn : iR b) (hz : ¬ b = 0) (k : ∀ z : Int, iR z → iI a / iI b = iI z → W p l e R s m args below meth c H locs cells slots Q (F0 m (pc + 1) ls (.int (iI z) :: rest))) : W p l e R s m args below meth c H locs cells slots Q (F0 m pc ls (.int (iI b) :: .int (iI a) :: rest)) := by
  obtain ⟨z, h1, h2⟩ := iI_of (iI a / iI b)
  exact lv_idiv hx hb hd (iI_nz hn hz) (by rw [h2]; exact k z h1 h2)
theorem r_irem (hx : p.tables.exec = Jvm.exec) (hb : c.code = cc) {a b : Int} (hd : decode cc pc = .ok (.irem, 1)) (hn : iR b) (hz : ¬ b = 0) (k : ∀ z : Int, iR z → iI a - iI a / iI b * iI b = iI z → W p l e R s m args below meth c H locs cells slots Q (F0 m (pc + 1) ls (.int (iI z) :: rest))) : W p l e R s m args below meth c H locs cells slots Q (F0 m pc ls (.int (iI b) :: .int (iI a) :: rest)) := by
  obtain ⟨z, h1, h2⟩ := iI_of (iI a - iI a / iI b * iI b)
  exact lv_irem hx hb hd (iI_nz hn hz) (by rw [h2]; exact k z h1 h2)
theorem r_i2b (hx : p.tables.exec = Jvm.exec) (hb : c.code = cc) {a : Int} (hd : decode cc pc = .ok (.i2b, 1)) (k : ∀ z : Int, iR z → (iI a).toInt8.toInt32 = iI z → W p l e R s m args below meth c H locs cells slots Q (F0 m (pc + 1) ls (.int (iI z) :: rest))) : W p l e R s m args below meth c H locs cells slots Q (F0 m pc ls (.int (iI a) :: rest)) := by
  obtain ⟨z, h1, h2⟩ := iI_of ((iI a).toInt8.toInt32)
  exact lv_i2b hx hb hd h2 (k z h1 h2)
theorem r_i2s (hx : p.tables.exec = Jvm.exec) (hb : c.code = cc) {a : Int} (hd : decode cc pc = .ok (.i2s, 1)) (k : ∀ z : Int, iR z → (iI a).toInt16.toInt32 = iI z → W p l e R s m args below meth c H locs cells slots Q (F0 m (pc + 1) ls (.int (iI z) :: rest))) : W p l e R s m args below meth c H locs cells slots Q (F0 m pc ls (.int (iI a) :: rest)) := by
  obtain ⟨z, h1, h2⟩ := iI_of ((iI a).toInt16.toInt32)
  exact lv_i2s hx hb hd h2 (k z h1 h2)
theorem r_icmp_eq (hx : p.tables.exec = Jvm.exec) (hb : c.code = cc) {a b : Int} {off : Int} {tgt : Nat} (hd : decode cc pc = .ok (.if_icmp .eq off, 3)) (ht : (pc : Int) + off = (tgt : Int)) (har : iR a) (hbr : iR b) (kt : a = b → W p l e R s m args below meth c H locs cells slots Q (F0 m tgt ls rest)) (kf : ¬ (a = b) → W p l e R s m args below meth c H locs cells slots Q (F0 m (pc + 3) ls rest)) : W p l e R s m args below meth c H locs cells slots Q (F0 m pc ls (.int (iI b) :: .int (iI a) :: rest)) := lv_icmp_eq hx hb hd ht (fun h => kt ((iI_eq har hbr).mp h)) (fun h => kf (fun g => h ((iI_eq har hbr).mpr g)))
theorem r_if_eq (hx : p.tables.exec = Jvm.exec) (hb : c.code = cc) {a : Int} {off : Int} {tgt : Nat} (hd : decode cc pc = .ok (.ifCond .eq off, 3)) (ht : (pc : Int) + off = (tgt : Int)) (har : iR a) (kt : a = 0 → W p l e R s m args below meth c H locs cells slots Q (F0 m tgt ls rest)) (kf : ¬ (a = 0) → W p l e R s m args below meth c H locs cells slots Q (F0 m (pc + 3) ls rest)) : W p l e R s m args below meth c H locs cells slots Q (F0 m pc ls (.int (iI a) :: rest)) := lv_if_eq hx hb hd ht (fun h => kt ((iI_eq har (show iR 0 by decide)).mp h)) (fun h => kf (fun g => h ((iI_eq har (show iR 0 by decide)).mpr g)))
theorem r_icmp_ne (hx : p.tables.exec = Jvm.exec) (hb : c.code = cc) {a b : Int} {off : Int} {tgt : Nat} (hd : decode cc pc = .ok (.if_icmp .ne off, 3)) (ht : (pc : Int) + off = (tgt : Int)) (har : iR a) (hbr : iR b) (kt : ¬ a = b → W p l e R s m args below meth c H locs cells slots Q (F0 m tgt ls rest)) (kf : a = b → W p l e R s m args below meth c H locs cells slots Q (F0 m (pc + 3) ls rest)) : W p l e R s m args below meth c H locs cells slots Q (F0 m pc ls (.int (iI b) :: .int (iI a) :: rest)) := lv_icmp_ne hx hb hd ht (fun h => kt (fun g => h ((iI_eq har hbr).mpr g))) (fun h => kf ((iI_eq har hbr).mp h))
theorem r_if_ne (hx : p.tables.exec = Jvm.exec) (hb : c.code = cc) {a : Int} {off : Int} {tgt : Nat} (hd : decode cc pc = .ok (.ifCond .ne off, 3)) (ht : (pc : Int) + off = (tgt : Int)) (har : iR a) (kt : ¬ a = 0 → W p l e R s m args below meth c H locs cells slots Q (F0 m tgt ls rest)) (kf : a = 0 → W p l e R s m args below meth c H locs cells slots Q (F0 m (pc + 3) ls rest)) : W p l e R s m args below meth c H locs cells slots Q (F0 m pc ls (.int (iI a) :: rest)) := lv_if_ne hx hb hd ht (fun h => kt (fun g => h ((iI_eq har (show iR 0 by decide)).mpr g))) (fun h => kf ((iI_eq har (show iR 0 by decide)).mp h))
theorem r_icmp_lt (hx : p.tables.exec = Jvm.exec) (hb : c.code = cc) {a b : Int} {off : Int} {tgt : Nat} (hd : decode cc pc = .ok (.if_icmp .lt off, 3)) (ht : (pc : Int) + off = (tgt : Int)) (har : iR a) (hbr : iR b) (kt : a < b → W p l e R s m args below meth c H locs cells slots Q (F0 m tgt ls rest)) (kf : ¬ (a < b) → W p l e R s m args below meth c H locs cells slots Q (F0 m (pc + 3) ls rest)) : W p l e R s m args below meth c H locs cells slots Q (F0 m pc ls (.int (iI b) :: .int (iI a) :: rest)) := lv_icmp_lt hx hb hd ht (fun h => kt ((iI_lt har hbr).mp h)) (fun h => kf (fun g => h ((iI_lt har hbr).mpr g)))
theorem r_if_lt (hx : p.tables.exec = Jvm.exec) (hb : c.code = cc) {a : Int} {off : Int} {tgt : Nat} (hd : decode cc pc = .ok (.ifCond .lt off, 3)) (ht : (pc : Int) + off = (tgt : Int)) (har : iR a) (kt : a < 0 → W p l e R s m args below meth c H locs cells slots Q (F0 m tgt ls rest)) (kf : ¬ (a < 0) → W p l e R s m args below meth c H locs cells slots Q (F0 m (pc + 3) ls rest)) : W p l e R s m args below meth c H locs cells slots Q (F0 m pc ls (.int (iI a) :: rest)) := lv_if_lt hx hb hd ht (fun h => kt ((iI_lt har (show iR 0 by decide)).mp h)) (fun h => kf (fun g => h ((iI_lt har (show iR 0 by decide)).mpr g)))
theorem r_icmp_ge (hx : p.tables.exec = Jvm.exec) (hb : c.code = cc) {a b : Int} {off : Int} {tgt : Nat} (hd : decode cc pc = .ok (.if_icmp .ge off, 3)) (ht : (pc : Int) + off = (tgt : Int)) (har : iR a) (hbr : iR b) (kt : b ≤ a → W p l e R s m args below meth c H locs cells slots Q (F0 m tgt ls rest)) (kf : ¬ (b ≤ a) → W p l e R s m args below meth c H locs cells slots Q (F0 m (pc + 3) ls rest)) : W p l e R s m args below meth c H locs cells slots Q (F0 m pc ls (.int (iI b) :: .int (iI a) :: rest)) := lv_icmp_ge hx hb hd ht (fun h => kt ((iI_le hbr har).mp h)) (fun h => kf (fun g => h ((iI_le hbr har).mpr g)))
theorem r_if_ge (hx : p.tables.exec = Jvm.exec) (hb : c.code = cc) {a : Int} {off : Int} {tgt : Nat} (hd : decode cc pc = .ok (.ifCond .ge off, 3)) (ht : (pc : Int) + off = (tgt : Int)) (har : iR a) (kt : 0 ≤ a → W p l e R s m args below meth c H locs cells slots Q (F0 m tgt ls rest)) (kf : ¬ (0 ≤ a) → W p l e R s m args below meth c H locs cells slots Q (F0 m (pc + 3) ls rest)) : W p l e R s m args below meth c H locs cells slots Q (F0 m pc ls (.int (iI a) :: rest)) := lv_if_ge hx hb hd ht (fun h => kt ((iI_le (show iR 0 by decide) har).mp h)) (fun h => kf (fun g => h ((iI_le (show iR 0 by decide) har).mpr g)))
theorem r_icmp_gt (hx : p.tables.exec = Jvm.exec) (hb : c.code = cc) {a b : Int} {off : Int} {tgt : Nat} (hd : decode cc pc = .ok (.if_icmp .gt off, 3)) (ht : (pc : Int) + off = (tgt : Int)) (har : iR a) (hbr : iR b) (kt : b < a → W p l e R s m args below meth c H locs cells slots Q (F0 m tgt ls rest)) (kf : ¬ (b < a) → W p l e R s m args below meth c H locs cells slots Q (F0 m (pc + 3) ls rest)) : W p l e R s m args below meth c H locs cells slots Q (F0 m pc ls (.int (iI b) :: .int (iI a) :: rest)) := lv_icmp_gt hx hb hd ht (fun h => kt ((iI_lt hbr har).mp h)) (fun h => kf (fun g => h ((iI_lt hbr har).mpr g)))
theorem r_if_gt (hx : p.tables.exec = Jvm.exec) (hb : c.code = cc) {a : Int} {off : Int} {tgt : Nat} (hd : decode cc pc = .ok (.ifCond .gt off, 3)) (ht : (pc : Int) + off = (tgt : Int)) (har : iR a) (kt : 0 < a → W p l e R s m args below meth c H locs cells slots Q (F0 m tgt ls rest)) (kf : ¬ (0 < a) → W p l e R s m args below meth c H locs cells slots Q (F0 m (pc + 3) ls rest)) : W p l e R s m args below meth c H locs cells slots Q (F0 m pc ls (.int (iI a) :: rest)) := lv_if_gt hx hb hd ht (fun h => kt ((iI_lt (show iR 0 by decide) har).mp h)) (fun h => kf (fun g => h ((iI_lt (show iR 0 by decide) har).mpr g)))
theorem r_icmp_le (hx : p.tables.exec = Jvm.exec) (hb : c.code = cc) {a b : Int} {off : Int} {tgt : Nat} (hd : decode cc pc = .ok (.if_icmp .le off, 3)) (ht : (pc : Int) + off = (tgt : Int)) (har : iR a) (hbr : iR b) (kt : a ≤ b → W p l e R s m args below meth c H locs cells slots Q (F0 m tgt ls rest)) (kf : ¬ (a ≤ b) → W p l e R s m args below meth c H locs cells slots Q (F0 m (pc + 3) ls rest)) : W p l e R s m args below meth c H locs cells slots Q (F0 m pc ls (.int (iI b) :: .int (iI a) :: rest)) := lv_icmp_le hx hb hd ht (fun h => kt ((iI_le har hbr).mp h)) (fun h => kf (fun g => h ((iI_le har hbr).mpr g)))
theorem r_if_le (hx : p.tables.exec = Jvm.exec) (hb : c.code = cc) {a : Int} {off : Int} {tgt : Nat} (hd : decode cc pc = .ok (.ifCond .le off, 3)) (ht : (pc : Int) + off = (tgt : Int)) (har : iR a) (kt : a ≤ 0 → W p l e R s m args below meth c H locs cells slots Q (F0 m tgt ls rest)) (kf : ¬ (a ≤ 0) → W p l e R s m args below meth c H locs cells slots Q (F0 m (pc + 3) ls rest)) : W p l e R s m args below meth c H locs cells slots Q (F0 m pc ls (.int (iI a) :: rest)) := lv_if_le hx hb hd ht (fun h => kt ((iI_le har (show iR 0 by decide)).mp h)) (fun h => kf (fun g => h ((iI_le har (show iR 0 by decide)).mpr g)))
theorem r_iinc (hx : p.tables.exec = Jvm.exec) (hb : c.code = cc) {i nL k : Nat} {n x v : Int} {lv lv' : List (Nat × Value)} (hd : decode cc pc = .ok (.iinc i n, 3)) (h : lv_has ls nL lv) (hk : lv[k]? = some (i, .int (iI x))) (hv : x + n = v) (hn : i < nL) (hl : (i, Value.int (iI v)) :: lv.filter (fun q => !(q.1 == i) && !(q.1 + 1 == i && q.2.category == 2)) = lv')
    (kk : ∀ ls' : Array Slot, lv_has ls' nL lv' → W p l e R s m args below meth c H locs cells slots Q (F0 m (pc + 3) ls' rest)) : W p l e R s m args below meth c H locs cells slots Q (F0 m pc ls rest) := lv_iinc hx hb hd h hk (by rw [← hv]; exact iI_add x n) hn hl kk
theorem r_get (hx : p.tables.exec = Jvm.exec) (hb : c.code = cc) (hC : cx D τ s m args own) (hw : wS D A H0 ws H locs) {C : String} {T : u_T} {N ci index : Nat} (hin : ∀ w ∈ u_ws C T N, w ∈ lw_good) (hc : vwCl[ci]? = some (C, T, N)) (k : Nat) (hk : k < N) (hl : Cond.fieldLink own index C (T k).2.1 (T k).2.2.1 ∈ lw_good) (hsd : (T k).1 = C) (q0 : Nat) {fs : List Value} (he : ws[q0]? = some (a, .inr (ci, fs))) {v : Value} (hv : fs[k]? = some v) (hd : decode cc pc = .ok (.getfield index, 3)) (kk : W p l e R s m args below meth c H locs cells slots Q (F0 m (pc + 3) ls (v :: rest))) : W p l e R s m args below meth c H locs cells slots Q (F0 m pc ls (.ref a :: rest)) :=
  va_get hx hb hC.1 hin hC.2.1 hC.2.2.1 hw.1 q0 he hc k hk (hC.1 _ hl) (fun x h => by rw [hsd] at h; exact h) hv hd kk
theorem r_getN (hx : p.tables.exec = Jvm.exec) (hb : c.code = cc) (hC : cx D τ s m args own) (hw : wS D A H0 ws H locs) {C host : String} {T : u_T} {N ci index : Nat} (hin : ∀ w ∈ u_ws C T N, w ∈ lw_good) (hc : vwCl[ci]? = some (C, T, N)) (k : Nat) (hk : k < N) (hl : Cond.fieldLinkNest own index C (T k).2.1 (T k).2.2.1 host ∈ lw_nest) (hsd : (T k).1 = C) (q0 : Nat) {fs : List Value} (he : ws[q0]? = some (a, .inr (ci, fs))) {v : Value} (hv : fs[k]? = some v) (hd : decode cc pc = .ok (.getfield index, 3)) (kk : W p l e R s m args below meth c H locs cells slots Q (F0 m (pc + 3) ls (v :: rest))) : W p l e R s m args below meth c H locs cells slots Q (F0 m pc ls (.ref a :: rest)) :=
  va_getN hx hb hC.1 hin hC.2.1 hC.2.2.1 hw.1 q0 he hc k hk (va_Nw.use rfl (hC.2.2.2.1 _ hl)) (fun x h => by rw [hsd] at h; exact h) hv hd kk

theorem r_put (hx : p.tables.exec = Jvm.exec) (hb : c.code = cc) (hC : cx D τ s m args own) (hw : wS D A H0 ws H locs) {C : String} {T : u_T} {N ci index : Nat} (hin : ∀ w ∈ u_ws C T N, w ∈ lw_good) (ty0 : Nat → FieldType) (hty : ∀ k, k < N → parseFieldDescriptor (T k).2.2.1 = some (ty0 k)) (hnm : ∀ a, a < N → ∀ b, b < N → a ≠ b → (T a).2.1 ≠ (T b).2.1) (hc : vwCl[ci]? = some (C, T, N)) (k : Nat) (hk : k < N) (hl : Cond.fieldLink own index C (T k).2.1 (T k).2.2.1 ∈ lw_good) (hsd : (T k).1 = C) (hfin : (T k).2.2.2 = false) {ty : FieldType} {v : Value} (hpd : parseFieldDescriptor (T k).2.2.1 = some ty) (hnr : narrow ty v = v) (hfit : fits ty v = true) (q0 : Nat) {fs : List Value} {ws' : va_W} (he : ws[q0]? = some (a, .inr (ci, fs))) (hlen : k < fs.length) (hws : ws.set q0 (a, .inr (ci, fs.set k v)) = ws') (hd : decode cc pc = .ok (.putfield index, 3)) (kk : ∀ (H : Heap) (locs : List Loc), wS D A H0 ws' H locs → W p l e R s m args below meth c H locs cells slots Q (F0 m (pc + 3) ls rest)) : W p l e R s m args below meth c H locs cells slots Q (F0 m pc ls (v :: .ref a :: rest)) := by
  subst hws
  exact va_put hx hb hC.1 hin ty0 hty hnm hC.2.1 hC.2.2.1 hw.1 hw.2.1 hw.2.2 q0 he hc k hk (hC.1 _ hl) (fun x h => by rw [hsd] at h; exact h) hfin hpd hnr hfit hlen hd (fun H1 locs1 h1 h2 h3 => kk H1 locs1 ⟨h1, h2, h3⟩)
theorem r_putN (hx : p.tables.exec = Jvm.exec) (hb : c.code = cc) (hC : cx D τ s m args own) (hw : wS D A H0 ws H locs) {C host : String} {T : u_T} {N ci index : Nat} (hin : ∀ w ∈ u_ws C T N, w ∈ lw_good) (ty0 : Nat → FieldType) (hty : ∀ k, k < N → parseFieldDescriptor (T k).2.2.1 = some (ty0 k)) (hnm : ∀ a, a < N → ∀ b, b < N → a ≠ b → (T a).2.1 ≠ (T b).2.1) (hc : vwCl[ci]? = some (C, T, N)) (k : Nat) (hk : k < N) (hl : Cond.fieldLinkNest own index C (T k).2.1 (T k).2.2.1 host ∈ lw_nest) (hsd : (T k).1 = C) (hfin : (T k).2.2.2 = false) {ty : FieldType} {v : Value} (hpd : parseFieldDescriptor (T k).2.2.1 = some ty) (hnr : narrow ty v = v) (hfit : fits ty v = true) (q0 : Nat) {fs : List Value} {ws' : va_W} (he : ws[q0]? = some (a, .inr (ci, fs))) (hlen : k < fs.length) (hws : ws.set q0 (a, .inr (ci, fs.set k v)) = ws') (hd : decode cc pc = .ok (.putfield index, 3)) (kk : ∀ (H : Heap) (locs : List Loc), wS D A H0 ws' H locs → W p l e R s m args below meth c H locs cells slots Q (F0 m (pc + 3) ls rest)) : W p l e R s m args below meth c H locs cells slots Q (F0 m pc ls (v :: .ref a :: rest)) := by
  subst hws
  exact va_putN hx hb hC.1 hin ty0 hty hnm hC.2.1 hC.2.2.1 hw.1 hw.2.1 hw.2.2 q0 he hc k hk (va_Nw.use rfl (hC.2.2.2.1 _ hl)) (fun x h => by rw [hsd] at h; exact h) hfin hpd hnr hfit hlen hd (fun H1 locs1 h1 h2 h3 => kk H1 locs1 ⟨h1, h2, h3⟩)
theorem r_putF (hx : p.tables.exec = Jvm.exec) (hb : c.code = cc) (hC : cx D τ s m args own) (hw : wS D A H0 ws H locs) {C : String} (hoC : own = C) {T : u_T} {N ci index : Nat} (hin : ∀ w ∈ u_ws C T N, w ∈ lw_good) (ty0 : Nat → FieldType) (hty : ∀ k, k < N → parseFieldDescriptor (T k).2.2.1 = some (ty0 k)) (hnm : ∀ a, a < N → ∀ b, b < N → a ≠ b → (T a).2.1 ≠ (T b).2.1) (hc : vwCl[ci]? = some (C, T, N)) (k : Nat) (hk : k < N) (hl : Cond.fieldLink own index C (T k).2.1 (T k).2.2.1 ∈ lw_good) (hsd : (T k).1 = C) (hin2 : meth.name = "<init>") (hfin : (T k).2.2.2 = true) {ty : FieldType} {v : Value} (hpd : parseFieldDescriptor (T k).2.2.1 = some ty) (hnr : narrow ty v = v) (hfit : fits ty v = true) (q0 : Nat) {fs : List Value} {ws' : va_W} (he : ws[q0]? = some (a, .inr (ci, fs))) (hlen : k < fs.length) (hws : ws.set q0 (a, .inr (ci, fs.set k v)) = ws') (hd : decode cc pc = .ok (.putfield index, 3)) (kk : ∀ (H : Heap) (locs : List Loc), wS D A H0 ws' H locs → W p l e R s m args below meth c H locs cells slots Q (F0 m (pc + 3) ls rest)) : W p l e R s m args below meth c H locs cells slots Q (F0 m pc ls (v :: .ref a :: rest)) := by
  subst hws
  subst hoC
  exact va_putF hx hb hC.1 hin ty0 hty hnm hC.2.1 hC.2.2.1 hw.1 hw.2.1 hw.2.2 q0 he hc k hk (hC.1 _ hl) (fun x h => by rw [hsd] at h; exact h) hfin hin2 hsd hpd hnr hfit hlen hd (fun H1 locs1 h1 h2 h3 => kk H1 locs1 ⟨h1, h2, h3⟩)
theorem r_iald (hx : p.tables.exec = Jvm.exec) (hb : c.code = cc) (hC : cx D τ s m args own) (hw : wS D A H0 ws H locs) (q0 : Nat) {n : Nat} {g : Int → Int} {e2 : Int} (he : ws[q0]? = some (a, .inl (τ 0, n, .inl (ar g)))) (h0 : 0 ≤ e2) (h1 : e2 < (n : Int)) (hn : n ≤ 2147483647) (hd : decode cc pc = .ok (.iaload, 1)) (kk : W p l e R s m args below meth c H locs cells slots Q (F0 m (pc + 1) ls (.int (iI (g e2)) :: rest))) : W p l e R s m args below meth c H locs cells slots Q (F0 m pc ls (.int (iI e2) :: .ref a :: rest)) :=
  va_iald hx hb hC.2.2.1 hw.1 q0 0 he rfl (iI_in h0 h1 hn) hd (by rw [ar_get g h0 (by omega)]; exact kk)
theorem r_zald (hx : p.tables.exec = Jvm.exec) (hb : c.code = cc) (hC : cx D τ s m args own) (hw : wS D A H0 ws H locs) (q0 : Nat) {n : Nat} {g : Int → Int} {e2 : Int} (he : ws[q0]? = some (a, .inl (τ 2, n, .inl (ar g)))) (h0 : 0 ≤ e2) (h1 : e2 < (n : Int)) (hn : n ≤ 2147483647) (hd : decode cc pc = .ok (.baload, 1)) (kk : W p l e R s m args below meth c H locs cells slots Q (F0 m (pc + 1) ls (.int (iI (g e2)) :: rest))) : W p l e R s m args below meth c H locs cells slots Q (F0 m pc ls (.int (iI e2) :: .ref a :: rest)) :=
  va_zald hx hb hC.2.2.1 hw.1 q0 2 he rfl (iI_in h0 h1 hn) hd (by rw [ar_get g h0 (by omega)]; exact kk)
theorem r_lald (hx : p.tables.exec = Jvm.exec) (hb : c.code = cc) (hC : cx D τ s m args own) (hw : wS D A H0 ws H locs) (q0 : Nat) {n : Nat} {g : Int → Int} {e2 : Int} (he : ws[q0]? = some (a, .inl (τ 1, n, .inr (.inl (arL g))))) (h0 : 0 ≤ e2) (h1 : e2 < (n : Int)) (hn : n ≤ 2147483647) (hd : decode cc pc = .ok (.laload, 1)) (kk : W p l e R s m args below meth c H locs cells slots Q (F0 m (pc + 1) ls (.long (lI (g e2)) :: rest))) : W p l e R s m args below meth c H locs cells slots Q (F0 m pc ls (.int (iI e2) :: .ref a :: rest)) :=
  va_lald hx hb hC.2.2.1 hw.1 q0 1 he rfl (iI_in h0 h1 hn) hd (by rw [arL_get g h0 (by omega)]; exact kk)
theorem vz_nar {z : Int} (h : z = 0 ∨ z = 1) : vp_nar .boolean (iI z) = iI z := by rcases h with rfl | rfl <;> decide +kernel
theorem r_iast (hx : p.tables.exec = Jvm.exec) (hb : c.code = cc) (hC : cx D τ s m args own) (hw : wS D A H0 ws H locs) (q0 : Nat) {n : Nat} {g : Int → Int} {e2 x : Int} {ws' : va_W} (he : ws[q0]? = some (a, .inl (τ 0, n, .inl (ar g)))) (h0 : 0 ≤ e2) (h1 : e2 < (n : Int)) (hn : n ≤ 2147483647) (hws : ws.set q0 (a, .inl (τ 0, n, .inl (ar (up g e2 x)))) = ws') (hd : decode cc pc = .ok (.iastore, 1)) (kk : ∀ (H : Heap) (locs : List Loc), wS D A H0 ws' H locs → W p l e R s m args below meth c H locs cells slots Q (F0 m (pc + 1) ls rest)) : W p l e R s m args below meth c H locs cells slots Q (F0 m pc ls (.int (iI x) :: .int (iI e2) :: .ref a :: rest)) := by
  subst hws
  refine va_iast hx hb hC.2.2.1 hw.1 hw.2.1 hw.2.2 q0 0 he rfl (iI_in h0 h1 hn) hd (fun H1 locs1 h1 h2 h3 => ?_)
  rw [ar_set g h0 (by omega)] at h1 h2
  exact kk H1 locs1 ⟨h1, h2, h3⟩
theorem r_zast (hx : p.tables.exec = Jvm.exec) (hb : c.code = cc) (hC : cx D τ s m args own) (hw : wS D A H0 ws H locs) (q0 : Nat) {n : Nat} {g : Int → Int} {e2 x : Int} {ws' : va_W} (he : ws[q0]? = some (a, .inl (τ 2, n, .inl (ar g)))) (h0 : 0 ≤ e2) (h1 : e2 < (n : Int)) (hn : n ≤ 2147483647) (hx01 : x = 0 ∨ x = 1) (hws : ws.set q0 (a, .inl (τ 2, n, .inl (ar (up g e2 x)))) = ws') (hd : decode cc pc = .ok (.bastore, 1)) (kk : ∀ (H : Heap) (locs : List Loc), wS D A H0 ws' H locs → W p l e R s m args below meth c H locs cells slots Q (F0 m (pc + 1) ls rest)) : W p l e R s m args below meth c H locs cells slots Q (F0 m pc ls (.int (iI x) :: .int (iI e2) :: .ref a :: rest)) := by
  subst hws
  refine va_zast hx hb hC.2.2.1 hw.1 hw.2.1 hw.2.2 q0 2 he rfl (iI_in h0 h1 hn) hd (fun H1 locs1 h1 h2 h3 => ?_)
  rw [vz_nar hx01] at h1 h2; rw [ar_set g h0 (by omega)] at h1 h2
  exact kk H1 locs1 ⟨h1, h2, h3⟩
theorem r_last (hx : p.tables.exec = Jvm.exec) (hb : c.code = cc) (hC : cx D τ s m args own) (hw : wS D A H0 ws H locs) (q0 : Nat) {n : Nat} {g : Int → Int} {e2 x : Int} {ws' : va_W} (he : ws[q0]? = some (a, .inl (τ 1, n, .inr (.inl (arL g))))) (h0 : 0 ≤ e2) (h1 : e2 < (n : Int)) (hn : n ≤ 2147483647) (hws : ws.set q0 (a, .inl (τ 1, n, .inr (.inl (arL (up g e2 x))))) = ws') (hd : decode cc pc = .ok (.lastore, 1)) (kk : ∀ (H : Heap) (locs : List Loc), wS D A H0 ws' H locs → W p l e R s m args below meth c H locs cells slots Q (F0 m (pc + 1) ls rest)) : W p l e R s m args below meth c H locs cells slots Q (F0 m pc ls (.long (lI x) :: .int (iI e2) :: .ref a :: rest)) := by
  subst hws
  refine va_last hx hb hC.2.2.1 hw.1 hw.2.1 hw.2.2 q0 1 he rfl (iI_in h0 h1 hn) hd (fun H1 locs1 h1 h2 h3 => ?_)
  rw [arL_set g h0 (by omega)] at h1 h2
  exact kk H1 locs1 ⟨h1, h2, h3⟩
end RW
