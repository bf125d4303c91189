/-! STRC: substring: a String newly made out of the first bytes of one that is there -/
theorem va_nd_range (n : Nat) : va_nd (List.range n) = true := by
  have h : ∀ l : List Nat, l.Nodup → va_nd l = true := by
    intro l
    induction l with
    | nil => intro _; rfl
    | cons a l ih =>
      intro h
      have h2 := List.nodup_cons.mp h
      unfold va_nd
      rw [ih h2.2]
      simp [h2.1]
  exact h _ List.nodup_range
def gQr (D : va_G) (E : Nat → State → va_W → Prop) (A : Nat → Prop) : Array Value → State → Outcome → State → Prop := va_Qr (fun _ : Unit => True) (fun _ a t => gW D A (E a t) t) A
theorem t_metE {l : Launch} {y : MethodName} {b : ByteArray} {mL k mc ms sz : Nat} {sa sv : Nat} {bs : List Int} {ret : Option FieldType} {D : va_G} {τ : Nat → ClassId} {sA sV : Nat → Nat} {wc : va_W} {As : List Value} {Qc : (Nat → Prop) → Array Value → State → Outcome → State → Prop} (hpl : plainFor y = true) (hn : (lg_sl As).length ≤ mL)
    (body : ∀ (p : Program) (e : Env) (s : State) (m : MethodId) (args : Array Value) (below : List Frame) (meth : Method) (c : Code) (ls : Array Slot), s.heap.size = sz → p.tables.exec = Jvm.exec → c.code = b → c.maxLocals = mL → meth.sig.returnType = ret → meth.locks = false → meth.name = y.name → cx D τ s m args y.cls → LK (va_A wc s.heap.size) s s.heap sA sV → ST (va_A wc s.heap.size) s s.heap sa sv bs → (∀ q : Nat, s.heap.size ≤ q → va_A wc s.heap.size q) → wS D (va_A wc s.heap.size) s.heap wc s.heap [] → lv_has ls mL (lv_args 0 As) →
      W p l e (rmk k mc ms) s m args below meth c s.heap [] 0 0 (MQ below (Qc (va_A wc s.heap.size)) args s mc ms (va_A wc s.heap.size)) (F0 m 0 ls [])) :
    Met l y (lw_w y b mL ret) (rmk k mc ms) (tPc D τ sA sV wc sz sa sv bs As) (Qc (va_A wc sz)) mc ms (va_A wc sz) := by
  refine va_MetF (cc := b) (maxL := mL) (ret := ret) hpl rfl ?_
  intro p e s m args below meth c s₁ B hml hv
  obtain ⟨rfl, ⟨⟨hsz, hP, hK, hD0⟩, hLS⟩, hST⟩ := hv
  have hts := atoms_spec (ws := lw_w y b mL ret) B.pre
  have hown : s.vm.findClass y.cls = some m.cls := findClass_of_methodNamed B.named
  subst hsz
  have hl := lv_entry As (n := mL) hn
  rw [lg_entry_eq]
  exact body p e s m _ below meth c _ rfl B.exec B.bytes hml B.returns B.notSynchronized (name_of_methodNamed B.named B.method).1 ⟨fun w hw => hts w (List.mem_cons_of_mem _ hw), hown, hK.1, hK.2⟩ hLS hST (fun q h => Or.inr h) ⟨hP, hD0.self, va_S.rf⟩ hl
section RR
variable {p : Program} {l : Launch} {e : Env} {R : Room} {s : State} {m : MethodId} {args : Array Value} {below : List Frame} {meth : Method} {c : Code} {H : Heap} {locs : List Loc} {cells slots : Nat} {Q : State → Prop}
variable {cc : ByteArray} {pc : Nat} {ls : Array Slot} {rest st0 : List Value} {D : va_G} {A : Nat → Prop} {a : Nat} {ws wc wr : va_W} {H0 : Heap} {τ : Nat → ClassId} {own : String} {sA sV : Nat → Nat}
variable {y : MethodName} {b : ByteArray} {mL n lev mc ms index nL cells' slots' : Nat} {ret : Option FieldType} {As : List Value}
theorem t_cSr (hx : p.tables.exec = Jvm.exec) (hb : c.code = cc) (hml : c.maxLocals = nL) (hC : cx D τ s m args own) (hLS : LK A s s.heap sA sV) (hA : ∀ q, s.heap.size ≤ q → A q) (hw : wS D A s.heap ws H locs) (hl : ls.size = nL) {sa sv : Nat} {bs : List Int} (hST : ST (va_A [] H.size) s H sa sv bs) {E : Nat → State → va_W → Prop} (M : Met l y (lw_w y b mL ret) (rmk lev mc ms) (tPc D τ sA sV [] H.size sa sv bs As) (gQr D E (va_A [] H.size)) mc ms (va_A [] H.size)) (K : KS y b mL ret n) (hlk : Cond.methodLink own index y ∈ lw_good) (hst : st0 = As.reverse ++ rest) (hn : As.length = n) (hcat : (rest.map fun v => v.category).sum ≤ 8) (hroom : lev + 1 ≤ R.frames ∧ 8 + (mL + 11) + 64 * lev ≤ R.locals) (hcs : cells + mc ≤ R.cells ∧ slots + ms ≤ R.slots) (hc2 : cells + mc = cells') (hs2 : slots + ms = slots') (hd : decode cc pc = .ok (.invokestatic index, 3))
    (kk : ∀ (ra : Nat) (t : State) (w1 : va_W) (H1 : Heap) (locs1 : List Loc), t.heap = H1 → s.vm.Alike t.vm → E ra t w1 → H.size ≤ H1.size → (∀ q : Nat, q < H.size → H1[q]? = H[q]?) → wS D A s.heap (ws ++ w1) H1 locs1 → W p l e R s m args below meth c H1 locs1 cells' slots' Q (F0 m (pc + 3) ls (.ref ra :: rest))) : W p l e R s m args below meth c H locs cells slots Q (F0 m pc ls st0) := by
  have hF := va_free hw.2.1 hw.2.2 hA [] (wc := []) rfl
  have hp := pick_all ws
  have hnd : va_nd (List.range ws.length) = true := va_nd_range _
  refine va_callr (va_runS ⟨hx, hb, hml, hC.2.1, hC.1⟩ M (va_cwS n hC.1 (g_wsS K hlk) rfl rfl rfl K.2.2.2 hroom) ⟨tPc_blind, t_pre (isC := []) rfl hC hA hLS hw rfl rfl hST⟩ rfl hn hl hst (lv_room hcat) hd hcs) hw.2.2 (fun q _ h => hF q h) hF (fun u ra t H1 locs1 ht hvm _ hB hsz hk1 hS => ?_)
  obtain ⟨w1, hE, h1⟩ := g_behind (isC := []) hw hA rfl hp hnd (fun i _ h => absurd h List.not_mem_nil) ht hk1 hS hB
  subst hc2
  subst hs2
  exact kk ra t w1 H1 locs1 ht hvm hE hsz (fun q hq => hk1 q hq (fun h => by
    rcases h with ⟨k, e, h⟩ | h
    · exact absurd h (by simp)
    · omega)) h1
theorem t_cVr (hx : p.tables.exec = Jvm.exec) (hb : c.code = cc) (hml : c.maxLocals = nL) (hC : cx D τ s m args own) (hLS : LK A s s.heap sA sV) (hA : ∀ q, s.heap.size ≤ q → A q) (hw : wS D A s.heap ws H locs) (hl : ls.size = nL) {sa sv : Nat} {bs : List Int} (hST : ST (va_A [] H.size) s H sa sv bs) {E : Nat → State → va_W → Prop} (M : Met l y (lw_w y b mL ret) (rmk lev mc ms) (tPc D τ sA sV [] H.size sa sv bs (.ref a :: As)) (gQr D E (va_A [] H.size)) mc ms (va_A [] H.size)) (K : KV y b mL ret n) (hlk : Cond.methodLink own index y ∈ lw_good) (hrv : ∃ cell : Cell, H[a]? = some cell ∧ cell.vm.isStatics = false ∧ s.vm.findClass y.cls = some cell.cls) (hst : st0 = As.reverse ++ .ref a :: rest) (hn : As.length = n) (hcat : (rest.map fun v => v.category).sum ≤ 8) (hroom : lev + 1 ≤ R.frames ∧ 8 + (mL + 11) + 64 * lev ≤ R.locals) (hcs : cells + mc ≤ R.cells ∧ slots + ms ≤ R.slots) (hc2 : cells + mc = cells') (hs2 : slots + ms = slots') (hd : decode cc pc = .ok (.invokevirtual index, 3))
    (kk : ∀ (ra : Nat) (t : State) (w1 : va_W) (H1 : Heap) (locs1 : List Loc), t.heap = H1 → s.vm.Alike t.vm → E ra t w1 → H.size ≤ H1.size → (∀ q : Nat, q < H.size → H1[q]? = H[q]?) → wS D A s.heap (ws ++ w1) H1 locs1 → W p l e R s m args below meth c H1 locs1 cells' slots' Q (F0 m (pc + 3) ls (.ref ra :: rest))) : W p l e R s m args below meth c H locs cells slots Q (F0 m pc ls st0) := by
  have hF := va_free hw.2.1 hw.2.2 hA [] (wc := []) rfl
  have hp := pick_all ws
  have hnd : va_nd (List.range ws.length) = true := va_nd_range _
  refine va_callr (va_runV ⟨hx, hb, hml, hC.2.1, hC.1⟩ M (cwV n hC.1 (g_wsV K hlk) rfl rfl rfl ⟨rfl, K.2.2.2⟩ hroom) ⟨tPc_blind, hrv, t_pre (isC := []) rfl hC hA hLS hw rfl rfl hST⟩ rfl hn hl hst (lv_room hcat) hd hcs) hw.2.2 (fun q _ h => hF q h) hF (fun u ra t H1 locs1 ht hvm _ hB hsz hk1 hS => ?_)
  obtain ⟨w1, hE, h1⟩ := g_behind (isC := []) hw hA rfl hp hnd (fun i _ h => absurd h List.not_mem_nil) ht hk1 hS hB
  subst hc2
  subst hs2
  exact kk ra t w1 H1 locs1 ht hvm hE hsz (fun q hq => hk1 q hq (fun h => by
    rcases h with ⟨k, e, h⟩ | h
    · exact absurd h (by simp)
    · omega)) h1
theorem k_aret (hx : p.tables.exec = Jvm.exec) (hb : c.code = cc) {rt : FieldType} (hr : meth.sig.returnType = some rt) (hrt : (∃ n, rt = .object n) ∨ ∃ t, rt = .array t) (hlk : meth.locks = false) (hw : wS D A s.heap ws H locs) {E : Nat → State → va_W → Prop} (w1 : va_W) (is : List Nat) (hpick : is.map (fun i => ws[i]?) = w1.map some) (hnd : va_nd is = true) (hE : ∀ t : State, t.heap = H → s.WarmedH t.vm → E a t w1) (hd : decode cc pc = .ok (.areturn, 1)) : W p l e R s m args below meth c H locs cells slots (MQ below (gQr D E A) args s cells slots A) (F0 m pc ls [.ref a]) :=
  W.aret hx hb hr hrt (Or.inr ⟨a, rfl⟩) (fun t ht hW => ⟨⟨(), a, rfl, trivial, w1, hE t ht hW, by rw [ht]; exact P_pick hw.1 hpick, hw.2.1.sub is hnd hpick⟩, hw.2.2.F ht⟩) hw.2.2.2.2 hd hlk
end RR
theorem s_ft3N (l : Launch) (D : va_G) (τ : Nat → ClassId) (sA sV : Nat → Nat) (sz : Nat) (k n : Int) (h0 : 0 ≤ k) (h1 : k ≤ n) (h2 : n ≤ 2147483647) : Met l yJ3_checkFromToIndex_8c36e (lw_w yJ3_checkFromToIndex_8c36e cJ3_checkFromToIndex_8c36e 4 (some .int)) (rmk 1 0 0) (kPc D τ sA sV (W0 m0) sz [.int (iI 0), .int (iI k), .int (iI n), .null]) (gQi D (EQi W0 T0 (fun z _ => z = 0)) (va_A (W0 m0) sz)) 0 0 (va_A (W0 m0) sz) := by
  refine k_met (ret := some .int) (Qc := gQi D (EQi W0 T0 (fun z _ => z = 0))) (by decide +kernel) (Nat.le_of_ble_eq_true rfl) ?_
  intro p e s m args below meth c A ls hx hb hml hr hlk hnm hC hLS hA hw hl
  have hC : cx D τ s m args RJ3 := hC
  have hl : lv_has ls 4 [(0, .int (iI 0)), (1, .int (iI k)), (2, .int (iI n)), (3, .null)] := hl
  refine lv_iload_n hx hb dJ3_checkFromToIndex_8c36e_0 rfl (lv_at hl 0 rfl) ?_
  refine r_if_lt (tgt := 14) hx hb dJ3_checkFromToIndex_8c36e_1 (by decide) (by omega) (fun h => absurd h (by omega)) (fun _ => ?_)
  refine lv_iload_n hx hb dJ3_checkFromToIndex_8c36e_4 rfl (lv_at hl 0 rfl) ?_
  refine lv_iload_n hx hb dJ3_checkFromToIndex_8c36e_5 rfl (lv_at hl 1 rfl) ?_
  refine r_icmp_gt (tgt := 14) hx hb dJ3_checkFromToIndex_8c36e_6 (by decide) (by decide) (by omega) (fun h => absurd h (by omega)) (fun _ => ?_)
  refine lv_iload_n hx hb dJ3_checkFromToIndex_8c36e_9 rfl (lv_at hl 1 rfl) ?_
  refine lv_iload_n hx hb dJ3_checkFromToIndex_8c36e_10 rfl (lv_at hl 2 rfl) ?_
  refine r_icmp_le (tgt := 22) hx hb dJ3_checkFromToIndex_8c36e_11 (by decide) (by omega) (by omega) (fun _ => ?_) (fun h => absurd h1 h)
  refine lv_iload_n hx hb dJ3_checkFromToIndex_8c36e_22 rfl (lv_at hl 0 rfl) ?_
  exact k_nret wq_0 (Rf := T0) (z := 0) hx hb hr rfl hlk hw trivial (by decide) rfl dJ3_checkFromToIndex_8c36e_23
theorem s_ft3R (l : Launch) (D : va_G) (τ : Nat → ClassId) (sA sV : Nat → Nat) (sz : Nat) (k n : Int) (t : Nat) (h0 : 0 ≤ k) (h1 : k ≤ n) (h2 : n ≤ 2147483647) : Met l yJ3_checkFromToIndex_8c36e (lw_w yJ3_checkFromToIndex_8c36e cJ3_checkFromToIndex_8c36e 4 (some .int)) (rmk 1 0 0) (kPc D τ sA sV (W0 m0) sz [.int (iI 0), .int (iI k), .int (iI n), (.ref t)]) (gQi D (EQi W0 T0 (fun z _ => z = 0)) (va_A (W0 m0) sz)) 0 0 (va_A (W0 m0) sz) := by
  refine k_met (ret := some .int) (Qc := gQi D (EQi W0 T0 (fun z _ => z = 0))) (by decide +kernel) (Nat.le_of_ble_eq_true rfl) ?_
  intro p e s m args below meth c A ls hx hb hml hr hlk hnm hC hLS hA hw hl
  have hC : cx D τ s m args RJ3 := hC
  have hl : lv_has ls 4 [(0, .int (iI 0)), (1, .int (iI k)), (2, .int (iI n)), (3, (.ref t))] := hl
  refine lv_iload_n hx hb dJ3_checkFromToIndex_8c36e_0 rfl (lv_at hl 0 rfl) ?_
  refine r_if_lt (tgt := 14) hx hb dJ3_checkFromToIndex_8c36e_1 (by decide) (by omega) (fun h => absurd h (by omega)) (fun _ => ?_)
  refine lv_iload_n hx hb dJ3_checkFromToIndex_8c36e_4 rfl (lv_at hl 0 rfl) ?_
  refine lv_iload_n hx hb dJ3_checkFromToIndex_8c36e_5 rfl (lv_at hl 1 rfl) ?_
  refine r_icmp_gt (tgt := 14) hx hb dJ3_checkFromToIndex_8c36e_6 (by decide) (by decide) (by omega) (fun h => absurd h (by omega)) (fun _ => ?_)
  refine lv_iload_n hx hb dJ3_checkFromToIndex_8c36e_9 rfl (lv_at hl 1 rfl) ?_
  refine lv_iload_n hx hb dJ3_checkFromToIndex_8c36e_10 rfl (lv_at hl 2 rfl) ?_
  refine r_icmp_le (tgt := 22) hx hb dJ3_checkFromToIndex_8c36e_11 (by decide) (by omega) (by omega) (fun _ => ?_) (fun h => absurd h1 h)
  refine lv_iload_n hx hb dJ3_checkFromToIndex_8c36e_22 rfl (lv_at hl 0 rfl) ?_
  exact k_nret wq_0 (Rf := T0) (z := 0) hx hb hr rfl hlk hw trivial (by decide) rfl dJ3_checkFromToIndex_8c36e_23
theorem s_bbe (l : Launch) (D : va_G) (τ : Nat → ClassId) (sA sV : Nat → Nat) (sz : Nat) (k n : Int) (h0 : 0 ≤ k) (h1 : k ≤ n) (h2 : n ≤ 2147483647) : Met l yJ0_checkBoundsBeginEnd_23922 (lw_w yJ0_checkBoundsBeginEnd_23922 cJ0_checkBoundsBeginEnd_23922 3 none) (rmk 2 0 0) (kPc D τ sA sV (W0 m0) sz [.int (iI 0), .int (iI k), .int (iI n)]) (gQv D (EQv W0 T0 (fun _ => True)) (va_A (W0 m0) sz)) 0 0 (va_A (W0 m0) sz) := by
  refine k_met (ret := none) (Qc := gQv D (EQv W0 T0 (fun _ => True))) (by decide +kernel) (Nat.le_of_ble_eq_true rfl) ?_
  intro p e s m args below meth c A ls hx hb hml hr hlk hnm hC hLS hA hw hl
  have hC : cx D τ s m args RJ0 := hC
  have hl : lv_has ls 3 [(0, .int (iI 0)), (1, .int (iI k)), (2, .int (iI n))] := hl
  refine lv_iload_n hx hb dJ0_checkBoundsBeginEnd_23922_0 rfl (lv_at hl 0 rfl) ?_
  refine lv_iload_n hx hb dJ0_checkBoundsBeginEnd_23922_1 rfl (lv_at hl 1 rfl) ?_
  refine lv_iload_n hx hb dJ0_checkBoundsBeginEnd_23922_2 rfl (lv_at hl 2 rfl) ?_
  rcases hLS.2.2 with hz | ⟨t, hz⟩
  · skip
    refine va_gets hx hb hz hw.2.2 hC.2.1 (hC.1 _ fl_J0_1053) (fun _ h => h) dJ0_checkBoundsBeginEnd_23922_3 ?_
    refine j_cSi (Wf := W0) (Rf := T0) (M0 := m0) (As := [.int (iI 0), .int (iI k), .int (iI n), .null]) (rest := []) (wr := []) hx hb hml hC hLS hA hw hl.1 (s_ft3N l D τ sA sV _ k n h0 h1 h2) kJ3_checkFromToIndex_8c36e ml_J0_1062 [] [] rfl rfl rfl rfl (fun i h => absurd h List.not_mem_nil) rfl rfl (Nat.le_of_ble_eq_true rfl) (rm_ok (by decide) (by decide)) ⟨by decide, by decide⟩ rfl rfl dJ0_checkBoundsBeginEnd_23922_6 (fun z1 M1 H locs hz1 _ _ hw => ?_)
    refine lv_pop hx hb dJ0_checkBoundsBeginEnd_23922_9 rfl ?_
    exact k_vret wq_0 (Rf := T0) (M0 := m0) (Q1 := fun _ => True) hx hb hr hlk hw trivial trivial dJ0_checkBoundsBeginEnd_23922_10
  · skip
    refine va_gets hx hb hz hw.2.2 hC.2.1 (hC.1 _ fl_J0_1053) (fun _ h => h) dJ0_checkBoundsBeginEnd_23922_3 ?_
    refine j_cSi (Wf := W0) (Rf := T0) (M0 := m0) (As := [.int (iI 0), .int (iI k), .int (iI n), .ref t]) (rest := []) (wr := []) hx hb hml hC hLS hA hw hl.1 (s_ft3R l D τ sA sV _ k n t h0 h1 h2) kJ3_checkFromToIndex_8c36e ml_J0_1062 [] [] rfl rfl rfl rfl (fun i h => absurd h List.not_mem_nil) rfl rfl (Nat.le_of_ble_eq_true rfl) (rm_ok (by decide) (by decide)) ⟨by decide, by decide⟩ rfl rfl dJ0_checkBoundsBeginEnd_23922_6 (fun z1 M1 H locs hz1 _ _ hw => ?_)
    refine lv_pop hx hb dJ0_checkBoundsBeginEnd_23922_9 rfl ?_
    exact k_vret wq_0 (Rf := T0) (M0 := m0) (Q1 := fun _ => True) hx hb hr hlk hw trivial trivial dJ0_checkBoundsBeginEnd_23922_10
theorem s_chkLen (l : Launch) (D : va_G) (τ : Nat → ClassId) (sA sV : Nat → Nat) (sz : Nat) (n : Int) (h0 : 0 ≤ n) (h2 : n ≤ 2147483647) : Met l yJ7_checkLength_df160 (lw_w yJ7_checkLength_df160 cJ7_checkLength_df160 2 none) (rmk 1 0 0) (kPc D τ sA sV (W0 m0) sz [.int (iI 0), .int (iI n)]) (gQv D (EQv W0 T0 (fun _ => True)) (va_A (W0 m0) sz)) 0 0 (va_A (W0 m0) sz) := by
  refine k_metF (ret := none) (Qc := gQv D (EQv W0 T0 (fun _ => True))) (by decide +kernel) (Nat.le_of_ble_eq_true rfl) ?_
  intro p e s m args below meth c A ls hx hb hml hr hlk hnm hC hLS hA hw hl
  have hC : cx D τ s m args RJ7 := hC
  have hl : lv_has ls 2 [(0, .int (iI 0)), (1, .int (iI n))] := hl
  refine lv_iload_n hx hb dJ7_checkLength_df160_0 rfl (lv_at hl 1 rfl) ?_
  refine lv_iload_n hx hb dJ7_checkLength_df160_1 rfl (lv_at hl 0 rfl) ?_
  refine r_icmp_ge (tgt := 37) hx hb dJ7_checkLength_df160_2 (by decide) (by omega) (by decide) (fun _ => ?_) (fun h => absurd h0 h)
  exact k_vret wq_0 (Rf := T0) (M0 := m0) (Q1 := fun _ => True) hx hb hr hlk hw trivial trivial dJ7_checkLength_df160_37
def bA (bs : List Int) : Nat → Int32 := fun j => iI (bs.getD j 0)
/-- a fresh byte array with the first n bytes -/
def EB (sz n : Nat) (bs : List Int) : Nat → State → va_W → Prop := fun a t w => sz ≤ a ∧ ∃ cA : ClassId, ArrOfT t cA .byte ∧ ∃ f : Nat → Int32, (∀ j, j < n → f j = bA bs j) ∧ w = [(a, .inl (cA, n, .inl f))]
theorem bA_fits {A : Nat → Prop} {U : State} {H : Heap} {sa sv : Nat} {bs : List Int} (h : ST A U H sa sv bs) {k : Nat} (hk : k < bs.length) : fits .byte (.int (bA bs k)) = true := by
  have hb := h.byt hk
  have hd : ∀ q : Nat, q < 128 → fits .byte (.int (iI q)) = true := by decide +kernel
  obtain ⟨q, hq⟩ := Int.eq_ofNat_of_zero_le hb.1
  unfold bA
  rw [hq]
  exact hd q (by omega)
theorem A_nil {sz q : Nat} (h : va_A [] sz q) : sz ≤ q := by
  rcases h with ⟨k, e, h⟩ | h
  · exact absurd h (by simp)
  · exact h
theorem s_cob (l : Launch) (D : va_G) (τ : Nat → ClassId) (sA sV : Nat → Nat) (sz sa sv : Nat) (bs : List Int) (n : Nat) (h0 : 0 < n) (h1 : n < bs.length) (h2 : n ≤ 8) : Met l yJ7_copyOfRangeByte_39247 (lw_w yJ7_copyOfRangeByte_39247 cJ7_copyOfRangeByte_39247 5 (some (.array .byte))) (rmk 2 1 8) (tPc D τ sA sV [] sz sa sv bs [.ref sv, .int (iI 0), .int (iI n)]) (gQr D (EB sz n bs) (va_A [] sz)) 1 8 (va_A [] sz) := by
  refine t_metE (ret := some (.array .byte)) (Qc := gQr D (EB sz n bs)) (by decide +kernel) (Nat.le_of_ble_eq_true rfl) ?_
  intro p e s m args below meth c ls hsz hx hb hml hr hlk hnm hC hLS hST hA hw hl
  have hC : cx D τ s m args RJ7 := hC
  have hl : lv_has ls 5 [(0, .ref sv), (1, .int (iI 0)), (2, .int (iI n))] := hl
  have hn := hST.2.2.2.2.2
  refine lv_iload_n hx hb dJ7_copyOfRangeByte_39247_0 rfl (lv_at hl 1 rfl) ?_
  refine lv_iload_n hx hb dJ7_copyOfRangeByte_39247_1 rfl (lv_at hl 2 rfl) ?_
  refine j_cSv (Wf := W0) (Rf := T0) (M0 := m0) (As := [.int (iI 0), .int (iI n)]) (rest := []) (wr := []) hx hb hml hC hLS hA hw hl.1 (s_chkLen l D τ sA sV _ n (by omega) (by omega)) kJ7_checkLength_df160 ml_J7_343 [] [] rfl rfl rfl rfl (fun i h => absurd h List.not_mem_nil) rfl rfl (Nat.le_of_ble_eq_true rfl) (rm_ok (by decide) (by decide)) ⟨Nat.zero_le _, Nat.zero_le _⟩ rfl rfl dJ7_copyOfRangeByte_39247_2 (fun M1 H locs _ _ hw => ?_)
  have hw : wS D (va_A [] s.heap.size) s.heap [] H locs := hw
  refine lv_iload_n hx hb dJ7_copyOfRangeByte_39247_5 rfl (lv_at hl 2 rfl) ?_
  refine lv_iload_n hx hb dJ7_copyOfRangeByte_39247_6 rfl (lv_at hl 1 rfl) ?_
  refine r_isub (z := (n : Int)) hx hb dJ7_copyOfRangeByte_39247_7 (by omega) ?_
  refine lv_istore_n (lv' := [(3, .int (iI n)), (0, .ref sv), (1, .int (iI 0)), (2, .int (iI n))]) hx hb dJ7_copyOfRangeByte_39247_8 rfl hl (by decide) rfl (fun ls hl => ?_)
  refine lv_iload_n hx hb dJ7_copyOfRangeByte_39247_9 rfl (lv_at hl 0 rfl) ?_
  refine va_newa (atype := .byte) hx hb (hC.1 _ ac_byte) rfl hC.2.2.1 hw.1 hw.2.1 hw.2.2 hA (a0 := (n, .inl (ar (fun _ => 0)))) (fun cA => rfl) (iI_nn ⟨by omega, by omega⟩ (by omega)) (by rw [iI_clamp ⟨by omega, by omega⟩]; exact Int.toNat_natCast n) (by show n * 1 ≤ _; omega) (Nat.le_refl 1) (by show 0 + n ≤ 8; omega) dJ7_copyOfRangeByte_39247_10 (fun q cA H g0 g1 g2 g3 => ?_)
  refine W.widen (k := 1) (n := 8) (by omega) (by omega) ?_
  refine lv_astore (lv' := [(4, .ref q), (3, .int (iI n)), (0, .ref sv), (1, .int (iI 0)), (2, .int (iI n))]) hx hb dJ7_copyOfRangeByte_39247_12 hl (by decide) rfl (fun ls hl => ?_)
  refine lv_aload_n hx hb dJ7_copyOfRangeByte_39247_14 rfl (lv_at hl 2 rfl) ?_
  refine lv_iload_n hx hb dJ7_copyOfRangeByte_39247_15 rfl (lv_at hl 3 rfl) ?_
  refine lv_aload hx hb dJ7_copyOfRangeByte_39247_16 (lv_at hl 0 rfl) ?_
  refine r_iconst hx hb dJ7_copyOfRangeByte_39247_18 ?_
  refine lv_aload_n hx hb dJ7_copyOfRangeByte_39247_19 rfl (lv_at hl 2 rfl) ?_
  refine va_tlen (v := iI bs.length) hx hb hST.2.2.2.1 g3 rfl dJ7_copyOfRangeByte_39247_20 ?_
  refine lv_iload_n hx hb dJ7_copyOfRangeByte_39247_21 rfl (lv_at hl 3 rfl) ?_
  refine r_isub (z := (bs.length : Int)) hx hb dJ7_copyOfRangeByte_39247_22 (by omega) ?_
  refine lv_iload_n hx hb dJ7_copyOfRangeByte_39247_23 rfl (lv_at hl 1 rfl) ?_
  refine r_mminF hx hb hml hC hl.1 ml_J7_304 sm_min in_J9 cd_min (by decide) (Nat.le_of_ble_eq_true rfl) (by decide) (by decide) (by omega) (by omega) dJ7_copyOfRangeByte_39247_24 (fun x4 e4 g4 => ?_)
  obtain rfl : x4 = (n : Int) := by omega
  have hz0 : (iI 0).toNatClampNeg = 0 := iI_clamp (by decide)
  have hzn : (iI n).toNatClampNeg = n := by rw [iI_clamp ⟨by omega, by omega⟩]; exact Int.toNat_natCast n
  refine vk_copyt (f := bA bs) (t1 := 5) hx hb (hml.trans hl.1.symm) hC.2.1 (hC.1 _ ml_J7_150) (hC.1 _ nm_arraycopy) (hC.1 _ sm_arraycopy) (hC.1 _ in_J10) g0 g1 g2 g3 hST.2.2.2.1 0 rfl rfl (iI_nn (by decide) (by decide)) (iI_nn (by decide) (by decide)) (iI_nn ⟨by omega, by omega⟩ (by omega)) (by rw [hz0, hzn]; omega) (by rw [hz0, hzn]; omega) (fun i hi => by rw [hz0, Nat.zero_add]; rw [hzn] at hi; exact bA_fits hST (by omega)) (by decide) (Nat.le_of_ble_eq_true rfl) dJ7_copyOfRangeByte_39247_27 (fun H locs g4 g5 g6 => ?_)
  refine lv_aload hx hb dJ7_copyOfRangeByte_39247_30 (lv_at hl 0 rfl) ?_
  rw [hz0, hzn] at g4 g5
  refine k_aret hx hb hr (Or.inr ⟨_, rfl⟩) hlk ⟨g4, g5, g6⟩ [(q, .inl (cA, n, .inl (va_cpy (bA bs) (ar (fun _ => 0)) 0 0 n)))] [0] rfl rfl (fun t ht hW => ⟨by rw [← hsz]; exact A_nil (g5.2 0 _ rfl), cA, arrOfT_moved hW.alike (g0.2 5 _ rfl).1, va_cpy (bA bs) (ar (fun _ => 0)) 0 0 n, fun j hj => ?_, rfl⟩) dJ7_copyOfRangeByte_39247_32
  rw [pk_cpy_in (by omega) (by omega)]
  simp
theorem s_cor (l : Launch) (D : va_G) (τ : Nat → ClassId) (sA sV : Nat → Nat) (sz sa sv : Nat) (bs : List Int) (n : Nat) (h0 : 0 < n) (h1 : n < bs.length) (h2 : n ≤ 8) : Met l yJ7_copyOfRange_39247 (lw_w yJ7_copyOfRange_39247 cJ7_copyOfRange_39247 3 (some (.array .byte))) (rmk 3 1 8) (tPc D τ sA sV [] sz sa sv bs [.ref sv, .int (iI 0), .int (iI n)]) (gQr D (EB sz n bs) (va_A [] sz)) 1 8 (va_A [] sz) := by
  refine t_metE (ret := some (.array .byte)) (Qc := gQr D (EB sz n bs)) (by decide +kernel) (Nat.le_of_ble_eq_true rfl) ?_
  intro p e s m args below meth c ls hsz hx hb hml hr hlk hnm hC hLS hST hA hw hl
  have hC : cx D τ s m args RJ7 := hC
  have hl : lv_has ls 3 [(0, .ref sv), (1, .int (iI 0)), (2, .int (iI n))] := hl
  have hn := hST.2.2.2.2.2
  refine lv_iload_n hx hb dJ7_copyOfRange_39247_0 rfl (lv_at hl 1 rfl) ?_
  refine r_if_ne (tgt := 10) hx hb dJ7_copyOfRange_39247_1 (by decide) (by decide) (fun h => absurd rfl h) (fun _ => ?_)
  refine lv_iload_n hx hb dJ7_copyOfRange_39247_4 rfl (lv_at hl 2 rfl) ?_
  refine lv_aload_n hx hb dJ7_copyOfRange_39247_5 rfl (lv_at hl 0 rfl) ?_
  refine va_tlen (v := iI bs.length) hx hb hST.2.2.2.1 hw.2.2 rfl dJ7_copyOfRange_39247_6 ?_
  refine r_icmp_eq (tgt := 17) hx hb dJ7_copyOfRange_39247_7 (by decide) (by omega) (by omega) (fun h => absurd h (by omega)) (fun _ => ?_)
  refine lv_aload_n hx hb dJ7_copyOfRange_39247_10 rfl (lv_at hl 0 rfl) ?_
  refine lv_iload_n hx hb dJ7_copyOfRange_39247_11 rfl (lv_at hl 1 rfl) ?_
  refine lv_iload_n hx hb dJ7_copyOfRange_39247_12 rfl (lv_at hl 2 rfl) ?_
  refine t_cSr (As := [.ref sv, .int (iI 0), .int (iI n)]) (rest := []) hx hb hml hC hLS hA hw hl.1 (hST.down hA hw [] rfl) (s_cob l D τ sA sV _ sa sv bs n h0 h1 h2) kJ7_copyOfRangeByte_39247 ml_J7_339 rfl rfl (Nat.le_of_ble_eq_true rfl) (rm_ok (by decide) (by decide)) ⟨by decide, by decide⟩ rfl rfl dJ7_copyOfRange_39247_13 (fun ra t w1 H1 locs1 ht hvm hE hsz1 hk1 hw => ?_)
  obtain ⟨q0, cA, q1, f, q2, rfl⟩ := hE
  refine k_aret hx hb hr (Or.inr ⟨_, rfl⟩) hlk hw [(ra, .inl (cA, n, .inl f))] [0] rfl rfl (fun t2 ht2 hW => ⟨by rw [← hsz]; exact q0, cA, arrOfT_moved (hvm.symm.trans hW.alike) q1, f, q2, rfl⟩) dJ7_copyOfRange_39247_16
theorem OF_of {D : va_G} {τ : Nat → ClassId} {s : State} {m : MethodId} {args : Array Value} {own : String} {H : Heap} {ws : va_W} {a q0 : Nat} {fs : List Value} {v : Value} (hC : cx D τ s m args own) (hP : va_P D vwCl ws H) (he : ws[q0]? = some (a, .inr (0, fs))) {k : Nat} (hk : k < 4) (hv : fs[k]? = some v) : va_OF (TJ0 k).1 (TJ0 k).2.1 (TJ0 k).2.2.1 v a (fun _ => False) s H := by
  obtain ⟨r, h1, cell, q1, q2, q3, q4⟩ := hP q0 _ he
  have hr : r = (RJ0, TJ0, 4) := Option.some.inj (h1.symm.trans rfl)
  subst hr
  obtain ⟨hS, hfc, kC, hkC, hkind⟩ := hC.2.2.1.1 0 (RJ0, TJ0, 4) rfl
  obtain ⟨cf, kf, fi, f, hi, hsl⟩ := hS k hk
  refine ⟨cf, kf, fi, f, cell, hi, (u_facts hfc hkC (u_lays hC.1 iJ0 hk) hi).1, q1, (by rw [q3]; exact (fun h => by cases h)), ?_, id⟩
  rw [hsl, q4 k hk]
  simp [vp_V, hv]
theorem s_strInit (l : Launch) (D : va_G) (τ : Nat → ClassId) (sz : Nat) (a q : Nat) : Met l yJ0_init_031fb (lw_w yJ0_init_031fb cJ0_init_031fb 3 none) (rmk 1 0 0) (gPc D τ [(a, .inr (0, [.null, .int 0, .int 0, .int 0]))] sz [.ref a, .ref q, .int (iI 0)]) (gQv D (fun w => w = [(a, .inr (0, [.ref q, .int 0, .int 0, .int 0]))]) (va_A [(a, .inr (0, [.null, .int 0, .int 0, .int 0]))] sz)) 0 0 (va_A [(a, .inr (0, [.null, .int 0, .int 0, .int 0]))] sz) := by
  refine g_met (ret := none) (Qc := gQv D (fun w => w = [(a, .inr (0, [.ref q, .int 0, .int 0, .int 0]))])) (by decide +kernel) (Nat.le_of_ble_eq_true rfl) ?_
  intro p e s m args below meth c A ls hx hb hml hr hlk hnm hC hA hw hl
  have hC : cx D τ s m args RJ0 := hC
  have hl : lv_has ls 3 [(0, .ref a), (1, .ref q), (2, .int (iI 0))] := hl
  have ml_J0_1 : Cond.methodLink RJ0 1 objectInit ∈ lw_good := lw_gl (ws := [_]) (by decide +kernel) _ (List.mem_singleton.mpr rfl)
  refine lv_aload_n hx hb dJ0_init_031fb_0 rfl (lv_at hl 0 rfl) ?_
  refine r_objInit hx hb hml hC hl.1 ml_J0_1 im_init cd_init (by decide) (Nat.le_of_ble_eq_true rfl) (by decide) dJ0_init_031fb_1 ?_
  refine lv_aload_n hx hb dJ0_init_031fb_4 rfl (lv_at hl 0 rfl) ?_
  refine lv_aload_n hx hb dJ0_init_031fb_5 rfl (lv_at hl 1 rfl) ?_
  refine r_putF (ws' := [(a, .inr (0, [.ref q, .int 0, .int 0, .int 0]))]) hx hb hC hw rfl iJ0 tyJ0 tyJ0_ok nmJ0 rfl 0 (by decide) fl_J0_9 rfl hnm rfl (ty := .array .byte) (by decide +kernel) rfl rfl 0 rfl (Nat.le_of_ble_eq_true rfl) rfl dJ0_init_031fb_6 (fun H locs hw => ?_)
  refine lv_aload_n hx hb dJ0_init_031fb_9 rfl (lv_at hl 0 rfl) ?_
  refine lv_iload_n hx hb dJ0_init_031fb_10 rfl (lv_at hl 2 rfl) ?_
  refine r_putF (ws' := [(a, .inr (0, [.ref q, .int 0, .int 0, .int 0]))]) hx hb hC hw rfl iJ0 tyJ0 tyJ0_ok nmJ0 rfl 1 (by decide) fl_J0_15 rfl hnm rfl (ty := .byte) (by decide +kernel) rfl rfl 0 rfl (Nat.le_of_ble_eq_true rfl) rfl dJ0_init_031fb_11 (fun H locs hw => ?_)
  exact r_vret hx hb hr hlk hw [(a, .inr (0, [.ref q, .int 0, .int 0, .int 0]))] [0] rfl rfl rfl dJ0_init_031fb_14
/-- the String of the first n bytes: there, and either fresh or one that was there -/
def ES (sz n sa sv : Nat) (sA sV : Nat → Nat) (bs : List Int) : Nat → State → va_W → Prop := fun a t w => w = [] ∧ ∃ qv : Nat, ST (fun _ => False) t t.heap a qv (bs.take n) ∧ (sz ≤ a ∨ a = sa ∨ a = sA 3) ∧ (sz ≤ qv ∨ qv = sv ∨ qv = sV 3)
theorem ST.any {A : Nat → Prop} {U : State} {H : Heap} {sa sv : Nat} {bs : List Int} (h : ST A U H sa sv bs) : ST (fun _ => False) U H sa sv bs := h.narrow (fun _ q => q.elim)
theorem ST.alike {A : Nat → Prop} {U V : State} {H : Heap} {sa sv : Nat} {bs : List Int} (hv : U.vm.Alike V.vm) (h : ST A U H sa sv bs) : ST A V H sa sv bs := h.moved hv
set_option maxHeartbeats 1000000 in
theorem s_newStr (l : Launch) (D : va_G) (τ : Nat → ClassId) (sA sV : Nat → Nat) (sz sa sv : Nat) (bs : List Int) (n : Nat) (h1 : n < bs.length) (h2 : n ≤ 8) : Met l yJ1_newString_b4f7a (lw_w yJ1_newString_b4f7a cJ1_newString_b4f7a 3 (some (.object "java/lang/String"))) (rmk 4 2 12) (tPc D τ sA sV [] sz sa sv bs [.ref sv, .int (iI 0), .int (iI n)]) (gQr D (ES sz n sa sv sA sV bs) (va_A [] sz)) 2 12 (va_A [] sz) := by
  refine t_metE (ret := some (.object "java/lang/String")) (Qc := gQr D (ES sz n sa sv sA sV bs)) (by decide +kernel) (Nat.le_of_ble_eq_true rfl) ?_
  intro p e s m args below meth c ls hsz hx hb hml hr hlk hnm hC hLS hST hA hw hl
  have hC : cx D τ s m args RJ1 := hC
  have hl : lv_has ls 3 [(0, .ref sv), (1, .int (iI 0)), (2, .int (iI n))] := hl
  have hn := hST.2.2.2.2.2
  refine lv_iload_n hx hb dJ1_newString_b4f7a_0 rfl (lv_at hl 2 rfl) ?_
  refine r_if_ne (tgt := 7) hx hb dJ1_newString_b4f7a_1 (by decide) (by omega) (fun h => ?_) (fun h => ?_)
  · have cl_J1_1 : Cond.classLink RJ1 1 RJ0 ∈ lw_good := lw_gl (ws := [_]) (by decide +kernel) _ (List.mem_singleton.mpr rfl)
    refine r_new (ci := 0) (fs := [.null, .int 0, .int 0, .int 0]) hx hb hC hA hw iJ0 tyJ0 tyJ0_ok rfl cl_J1_1 it_J0 in_J0 (fun j hj => match j, hj with | 0, _ => rfl | 1, _ => rfl | 2, _ => rfl | 3, _ => rfl | j + 4, h => absurd h (by omega)) (by decide) (by decide) rfl rfl dJ1_newString_b4f7a_7 (fun a H hw => ?_)
    have hw : wS D (va_A [] s.heap.size) s.heap [(a, .inr (0, [.null, .int 0, .int 0, .int 0]))] H _ := hw
    refine lv_dup hx hb dJ1_newString_b4f7a_10 rfl ?_
    refine lv_aload_n hx hb dJ1_newString_b4f7a_11 rfl (lv_at hl 0 rfl) ?_
    refine lv_iload_n hx hb dJ1_newString_b4f7a_12 rfl (lv_at hl 1 rfl) ?_
    refine lv_iload_n hx hb dJ1_newString_b4f7a_13 rfl (lv_at hl 1 rfl) ?_
    refine lv_iload_n hx hb dJ1_newString_b4f7a_14 rfl (lv_at hl 2 rfl) ?_
    refine r_iadd (z := (n : Int)) hx hb dJ1_newString_b4f7a_15 (by omega) ?_
    refine t_cSr (As := [.ref sv, .int (iI 0), .int (iI n)]) (rest := [.ref a, .ref a]) hx hb hml hC hLS hA hw hl.1 (hST.down hA hw [] rfl) (s_cor l D τ sA sV _ sa sv bs n (by omega) h1 h2) kJ7_copyOfRange_39247 ml_J1_232 rfl rfl (Nat.le_of_ble_eq_true rfl) (rm_ok (by decide) (by decide)) ⟨by decide, by decide⟩ rfl rfl dJ1_newString_b4f7a_16 (fun q t w1 H1 locs1 ht hvm hE hsz1 hk1 hw => ?_)
    obtain ⟨q0, cA, q1, f, q2, rfl⟩ := hE
    have q1 := arrOfT_moved hvm.symm q1
    refine r_iconst hx hb dJ1_newString_b4f7a_19 ?_
    refine g_cIv (As := [.ref q, .int (iI 0)]) (wr := [(q, .inl (cA, n, .inl f))]) (rest := [.ref a]) hx hb hml hC hA hw hl.1 (s_strInit l D τ _ a q) kJ0_init_031fb ml_J1_112 [0] [1] rfl rfl rfl rfl (by decide) rfl rfl (Nat.le_of_ble_eq_true rfl) (rm_ok (by decide) (by decide)) ⟨by decide, by decide⟩ rfl rfl dJ1_newString_b4f7a_20 (fun w1 H locs hE hw => ?_)
    subst hE
    have hw : wS D (va_A [] s.heap.size) s.heap [(q, .inl (cA, n, .inl f)), (a, .inr (0, [.ref q, .int 0, .int 0, .int 0]))] H locs := hw
    have hne : n ≠ 0 := by omega
    refine k_aret hx hb hr (Or.inl ⟨_, rfl⟩) hlk hw [] [] rfl rfl (fun t2 ht2 hW => ⟨rfl, q, ?_, Or.inl (by rw [← hsz]; exact A_nil (hw.2.1.2 1 _ rfl)), Or.inl (by rw [← hsz]; exact A_nil (hw.2.1.2 0 _ rfl))⟩) dJ1_newString_b4f7a_23
    have hlen : (bs.take n).length = n := by rw [List.length_take]; omega
    refine ST.alike hW.alike ?_
    rw [ht2]
    refine ⟨?_, OF_of hC hw.1 (q0 := 1) rfl (k := 1) (by decide) rfl, OF_of hC hw.1 (q0 := 1) rfl (k := 0) (by decide) rfl, ?_, fun b hb0 => hST.2.2.2.2.1 b (List.mem_of_mem_take hb0), by omega⟩
    · obtain ⟨cell, c1, c2, c3⟩ := va_recv (ci := 0) hC.2.2.1 hw.1 rfl (q0 := 1) rfl
      exact ⟨cell, c1, c2, c3, id⟩
    · have hc := hw.1 0 _ rfl
      refine ⟨arrV cA n (fun j => .int (f j)), hc, q1 _ _, (fun h => by cases h), (by rw [arrV_size, hlen]; first | done | exact Nat.le_refl _), (by rw [arrV_size, hlen]; first | done | rfl), fun j hj => ?_, id⟩
      rw [hlen] at hj
      rw [arrV_read _ _ hj, q2 j hj]
      show some (Value.int (bA bs j)) = some (Value.int (iI ((bs.take n).getD j 0)))
      unfold bA
      rw [List.getD_eq_getElem?_getD, List.getD_eq_getElem?_getD, List.getElem?_take_of_lt hj]
  · have hn0 : n = 0 := by omega
    subst hn0
    have hz := hLS.1 3 (by decide)
    refine va_ldcS hx hb hC.2.1 hz.1 dJ1_newString_b4f7a_4 ?_
    refine W.widen (k := 2) (n := 12) (by decide) (by decide) ?_
    exact k_aret hx hb hr (Or.inl ⟨_, rfl⟩) hlk hw [] [] rfl rfl (fun t2 ht2 hW => ⟨rfl, sV 3, by rw [ht2]; exact ST.alike hW.alike (((hz.2.kept hw.2.2.2.1).any)), Or.inr (Or.inr rfl), Or.inr (Or.inr rfl)⟩) dJ1_newString_b4f7a_6
theorem s_substr (l : Launch) (D : va_G) (τ : Nat → ClassId) (sA sV : Nat → Nat) (sz sa sv : Nat) (bs : List Int) (n : Nat) (h1 : n ≤ bs.length) (h2 : bs.length ≤ 8) : Met l yJ0_substring_37a41 (lw_w yJ0_substring_37a41 cJ0_substring_37a41 5 (some (.object "java/lang/String"))) (rmk 5 2 12) (tPc D τ sA sV [] sz sa sv bs [.ref sa, .int (iI 0), .int (iI n)]) (gQr D (ES sz n sa sv sA sV bs) (va_A [] sz)) 2 12 (va_A [] sz) := by
  refine t_metE (ret := some (.object "java/lang/String")) (Qc := gQr D (ES sz n sa sv sA sV bs)) (by decide +kernel) (Nat.le_of_ble_eq_true rfl) ?_
  intro p e s m args below meth c ls hsz hx hb hml hr hlk hnm hC hLS hST hA hw hl
  have hC : cx D τ s m args RJ0 := hC
  have hl : lv_has ls 5 [(0, .ref sa), (1, .int (iI 0)), (2, .int (iI n))] := hl
  have hw : wS D (va_A [] s.heap.size) s.heap (W0 m0) s.heap [] := hw
  refine lv_aload_n hx hb dJ0_substring_37a41_0 rfl (lv_at hl 0 rfl) ?_
  refine t_cVi0 wq_0 (As := []) (rest := []) hx hb hml hC hLS hA hw hl.1 hST rfl (s_length l D τ sA sV _ sa sv bs) kJ0_length_8abf5 ml_J0_505 rfl rfl (Nat.le_of_ble_eq_true rfl) (rm_ok (by decide) (by decide)) ⟨by decide, by decide⟩ dJ0_substring_37a41_1 (fun z2 H locs hz2 hE2 hw => ?_)
  subst hE2
  refine lv_istore_n (lv' := [(3, .int (iI bs.length)), (0, .ref sa), (1, .int (iI 0)), (2, .int (iI n))]) hx hb dJ0_substring_37a41_4 rfl hl (by decide) rfl (fun ls hl => ?_)
  refine lv_iload_n hx hb dJ0_substring_37a41_5 rfl (lv_at hl 2 rfl) ?_
  refine lv_iload_n hx hb dJ0_substring_37a41_6 rfl (lv_at hl 3 rfl) ?_
  refine lv_iload_n hx hb dJ0_substring_37a41_7 rfl (lv_at hl 0 rfl) ?_
  refine j_cSv (Wf := W0) (Rf := T0) (M0 := m0) (As := [.int (iI 0), .int (iI n), .int (iI bs.length)]) (rest := []) (wr := []) hx hb hml hC hLS hA hw hl.1 (s_bbe l D τ sA sV _ n bs.length (by omega) (by omega) (by omega)) kJ0_checkBoundsBeginEnd_23922 ml_J0_521 [] [] rfl rfl rfl rfl (fun i h => absurd h List.not_mem_nil) rfl rfl (Nat.le_of_ble_eq_true rfl) (rm_ok (by decide) (by decide)) ⟨Nat.zero_le _, Nat.zero_le _⟩ rfl rfl dJ0_substring_37a41_8 (fun M1 H locs _ _ hw => ?_)
  have hw : wS D (va_A [] s.heap.size) s.heap (W0 m0) H locs := hw
  refine lv_iload_n hx hb dJ0_substring_37a41_11 rfl (lv_at hl 2 rfl) ?_
  refine r_if_ne (tgt := 22) hx hb dJ0_substring_37a41_12 (by decide) (by decide) (fun h => absurd rfl h) (fun _ => ?_)
  refine lv_iload_n hx hb dJ0_substring_37a41_15 rfl (lv_at hl 3 rfl) ?_
  refine lv_iload_n hx hb dJ0_substring_37a41_16 rfl (lv_at hl 0 rfl) ?_
  refine r_icmp_ne (tgt := 22) hx hb dJ0_substring_37a41_17 (by decide) (by omega) (by omega) (fun h => ?_) (fun h => ?_)
  · refine lv_iload_n hx hb dJ0_substring_37a41_22 rfl (lv_at hl 3 rfl) ?_
    refine lv_iload_n hx hb dJ0_substring_37a41_23 rfl (lv_at hl 2 rfl) ?_
    refine r_isub (z := (n : Int)) hx hb dJ0_substring_37a41_24 (by omega) ?_
    refine lv_istore (lv' := [(4, .int (iI n)), (3, .int (iI bs.length)), (0, .ref sa), (1, .int (iI 0)), (2, .int (iI n))]) hx hb dJ0_substring_37a41_25 hl (by decide) rfl (fun ls hl => ?_)
    refine lv_aload_n hx hb dJ0_substring_37a41_27 rfl (lv_at hl 2 rfl) ?_
    refine t_cVi0 wq_0 (As := []) (rest := []) hx hb hml hC hLS hA hw hl.1 hST rfl (s_latin l D τ sA sV _ sa sv bs) kJ0_isLatin1_aae02 ml_J0_492 rfl rfl (Nat.le_of_ble_eq_true rfl) (rm_ok (by decide) (by decide)) ⟨by decide, by decide⟩ dJ0_substring_37a41_28 (fun z1 H locs hz1 hE1 hw => ?_)
    subst hE1
    refine r_if_eq (tgt := 47) hx hb dJ0_substring_37a41_31 (by decide) (by decide) (fun h => absurd h (by decide)) (fun _ => ?_)
    refine lv_aload_n hx hb dJ0_substring_37a41_34 rfl (lv_at hl 2 rfl) ?_
    refine vk_getf hx hb hST.2.2.1 hw.2.2 hC.2.1 (hC.1 _ fl_J0_9) (fun _ h => h) dJ0_substring_37a41_35 ?_
    refine lv_iload_n hx hb dJ0_substring_37a41_38 rfl (lv_at hl 3 rfl) ?_
    refine lv_iload hx hb dJ0_substring_37a41_39 (lv_at hl 0 rfl) ?_
    refine t_cSr (As := [.ref sv, .int (iI 0), .int (iI n)]) (rest := []) hx hb hml hC hLS hA hw hl.1 (hST.down hA hw [] rfl) (s_newStr l D τ sA sV _ sa sv bs n (by omega) (by omega)) kJ1_newString_b4f7a ml_J0_685 rfl rfl (Nat.le_of_ble_eq_true rfl) (rm_ok (by decide) (by decide)) ⟨by decide, by decide⟩ rfl rfl dJ0_substring_37a41_41 (fun ra t w1 H1 locs1 ht hvm hE hsz1 hk1 hw2 => ?_)
    obtain ⟨rfl, qv, e1, e2, e3⟩ := hE
    refine lv_goto (tgt := 57) hx hb dJ0_substring_37a41_44 (by decide) ?_
    have hs0 : s.heap.size ≤ H.size := hw.2.2.1
    refine k_aret hx hb hr (Or.inl ⟨_, rfl⟩) hlk hw2 [] [] rfl rfl (fun t2 ht2 hW => ⟨rfl, qv, ?_, ?_, ?_⟩) dJ0_substring_37a41_57
    · rw [ht] at e1
      rw [ht2]
      exact ST.alike (hvm.symm.trans hW.alike) e1
    · rcases e2 with e2 | e2
      · exact Or.inl (by omega)
      · exact Or.inr e2
    · rcases e3 with e3 | e3
      · exact Or.inl (by omega)
      · exact Or.inr e3
  · refine lv_aload_n hx hb dJ0_substring_37a41_20 rfl (lv_at hl 1 rfl) ?_
    refine W.widen (k := 2) (n := 12) (by decide) (by decide) ?_
    have hn : bs.take n = bs := List.take_of_length_le (by omega)
    exact k_aret hx hb hr (Or.inl ⟨_, rfl⟩) hlk hw [] [] rfl rfl (fun t2 ht2 hW => ⟨rfl, sv, by rw [ht2, hn]; exact ST.alike hW.alike (((hST.kept hw.2.2.2.1).any)), Or.inr (Or.inl rfl), Or.inr (Or.inl rfl)⟩) dJ0_substring_37a41_21
theorem ST.guard {A : Nat → Prop} {U : State} {H : Heap} {sa sv : Nat} {bs : List Int} (h : ST (fun _ => False) U H sa sv bs) (h1 : ¬ A sa) (h2 : ¬ A sv) : ST A U H sa sv bs := by
  obtain ⟨⟨c1, a1, a2, a3, -⟩, ⟨b0, b1, b2, b3, c2, b4, b5, b6, b7, b8, -⟩, ⟨d0, d1, d2, d3, c3, d4, d5, d6, d7, d8, -⟩, ⟨c4, e1, e2, e3, e4, e5, e6, -⟩, f⟩ := h
  exact ⟨⟨c1, a1, a2, a3, h1⟩, ⟨b0, b1, b2, b3, c2, b4, b5, b6, b7, b8, h1⟩, ⟨d0, d1, d2, d3, c3, d4, d5, d6, d7, d8, h1⟩, ⟨c4, e1, e2, e3, e4, e5, e6, h2⟩, f⟩
theorem ST.lt {A : Nat → Prop} {U : State} {H : Heap} {sa sv : Nat} {bs : List Int} (h : ST A U H sa sv bs) : sa < H.size ∧ sv < H.size := by
  obtain ⟨⟨c1, a1, -⟩, -, -, ⟨c4, e1, -⟩, -⟩ := h
  exact ⟨(Array.getElem?_eq_some_iff.mp a1).1, (Array.getElem?_eq_some_iff.mp e1).1⟩
theorem ST.notA {A : Nat → Prop} {U : State} {H : Heap} {sa sv : Nat} {bs : List Int} (h : ST A U H sa sv bs) : ¬ A sa ∧ ¬ A sv := by
  obtain ⟨⟨c1, a1, a2, a3, a4⟩, -, -, ⟨c4, e1, e2, e3, e4, e5, e6, e7⟩, -⟩ := h
  exact ⟨a4, e7⟩
section RR2
variable {p : Program} {l : Launch} {e : Env} {R : Room} {s : State} {m : MethodId} {args : Array Value} {below : List Frame} {meth : Method} {c : Code} {H : Heap} {locs : List Loc} {cells slots : Nat} {Q : State → Prop}
variable {cc : ByteArray} {pc : Nat} {ls : Array Slot} {rest st0 : List Value} {D : va_G} {A : Nat → Prop} {a : Nat} {τ : Nat → ClassId} {own : String} {sA sV : Nat → Nat} {index nL cells' slots' : Nat} {Wf : Mem → va_W} {M0 : Mem}
theorem k_substr (hWQ : WQ Wf) (hx : p.tables.exec = Jvm.exec) (hb : c.code = cc) (hml : c.maxLocals = nL) (hC : cx D τ s m args own) (hLS : LK A s s.heap sA sV) (hA : ∀ q, s.heap.size ≤ q → A q) (hw : wS D A s.heap (Wf M0) H locs) (hl : ls.size = nL) {sa sv : Nat} {bs : List Int} (hST : ST A s s.heap sa sv bs) (h8 : bs.length ≤ 8) {h : Int} (h0 : 0 ≤ h) (h1 : h ≤ bs.length) (hlk : Cond.methodLink own index yJ0_substring_37a41 ∈ lw_good) (hcat : (rest.map fun v => v.category).sum ≤ 8) (hroom : 6 ≤ R.frames ∧ 8 + (5 + 11) + 64 * 5 ≤ R.locals) (hcs : cells + 2 ≤ R.cells ∧ slots + 12 ≤ R.slots) (hc2 : cells + 2 = cells') (hs2 : slots + 12 = slots') (hd : decode cc pc = .ok (.invokevirtual index, 3))
    (kk : ∀ (q qv : Nat) (H : Heap) (locs : List Loc), ST (va_A (Wf M0) H.size) s H q qv (bs.take h.toNat) → wS D A s.heap (Wf M0) H locs → W p l e R s m args below meth c H locs cells' slots' Q (F0 m (pc + 3) ls (.ref q :: rest))) : W p l e R s m args below meth c H locs cells slots Q (F0 m pc ls (.int (iI h) :: .int (iI 0) :: .ref sa :: rest)) := by
  obtain ⟨n, rfl⟩ := Int.eq_ofNat_of_zero_le h0
  refine t_cVr (As := [.int (iI 0), .int (iI n)]) (rest := rest) hx hb hml hC hLS hA hw hl (hST.down hA hw [] rfl) (s_substr l D τ sA sV _ sa sv bs n (by omega) h8) kJ0_substring_37a41 hlk (hST.recv hw.2.2) rfl rfl hcat hroom hcs hc2 hs2 hd (fun ra t w1 H1 locs1 ht hvm hE hsz1 hk1 hw2 => ?_)
  obtain ⟨rfl, qv, e1, e2, e3⟩ := hE
  rw [List.append_nil] at hw2
  have e4 := e1.lt
  rw [ht] at e1 e4
  have nn : ∀ x y z : Nat, x < H1.size → (H.size ≤ x ∨ x = y ∨ x = z) → ¬ A y → ¬ A z → ¬ va_A (Wf M0) H1.size x := by
    intro x y z hx1 hx2 hy hz hh
    rcases hh with ⟨k, e, hk⟩ | hh
    · have hlt : x < H.size := (hw.1 k _ hk).lt
      have hAx : A x := hw.2.1.2 k _ hk
      rcases hx2 with h2 | h2 | h2
      · omega
      · exact hy (h2 ▸ hAx)
      · exact hz (h2 ▸ hAx)
    · omega
  have hz3 := (hLS.1 3 (by decide)).2
  exact kk ra qv H1 locs1 ((ST.alike hvm.symm e1).guard (nn ra sa (sA 3) e4.1 e2 hST.notA.1 hz3.notA.1) (nn qv sv (sV 3) e4.2 e3 hST.notA.2 hz3.notA.2)) hw2
end RR2
