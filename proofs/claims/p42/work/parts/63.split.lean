section
/-! SPLIT: worlds side by side -/
theorem pick_l (a b : va_W) : (List.range a.length).map (fun i => (a ++ b)[i]?) = a.map some := by
  rw [← pick_all a]
  apply List.map_congr_left
  intro i hi
  rw [List.getElem?_append_left (List.mem_range.mp hi)]
theorem pick_r (a b : va_W) : ((List.range b.length).map (fun i => i + a.length)).map (fun i => (a ++ b)[i]?) = b.map some := by
  rw [← pick_all b, List.map_map]
  apply List.map_congr_left
  intro i _
  show (a ++ b)[i + a.length]? = b[i]?
  rw [List.getElem?_append_right (Nat.le_add_left _ _), Nat.add_sub_cancel]
theorem nd_of {l : List Nat} (h : l.Nodup) : va_nd l = true := by
  induction l with
  | nil => rfl
  | cons a l ih =>
    have h2 := List.nodup_cons.mp h
    unfold va_nd
    rw [ih h2.2]
    simp [h2.1]
theorem nodup_shift (n k : Nat) : ((List.range n).map (fun i => i + k)).Nodup := List.Pairwise.map _ (fun a b (h : a ≠ b) hab => h (by omega)) List.nodup_range
theorem wS.swap {D : va_G} {A : Nat → Prop} {H0 H : Heap} {locs : List Loc} {a b : va_W} (hw : wS D A H0 (a ++ b) H locs) : wS D A H0 (b ++ a) H locs := by
  refine hw.pick ((List.range b.length).map (fun i => i + a.length) ++ List.range a.length) (nd_of ?_) ?_
  · rw [List.nodup_append]
    refine ⟨nodup_shift _ _, List.nodup_range, ?_⟩
    intro x hx y hy
    obtain ⟨i, hi, rfl⟩ := List.mem_map.mp hx
    have := List.mem_range.mp hy
    omega
  · rw [List.map_append, List.map_append, pick_l, pick_r]
theorem wS.rot {D : va_G} {A : Nat → Prop} {H0 H : Heap} {locs : List Loc} {a b c : va_W} (hw : wS D A H0 (a ++ (b ++ c)) H locs) : wS D A H0 (b ++ (c ++ a)) H locs := by
  have h := hw.swap
  rw [List.append_assoc] at h
  exact h
section KS
variable {p : Program} {l : Launch} {e : Env} {R : Room} {s : State} {m : MethodId} {args : Array Value} {below : List Frame} {meth : Method} {c : Code} {H : Heap} {locs : List Loc} {cells slots : Nat} {Q : State → Prop}
variable {cc : ByteArray} {pc : Nat} {ls : Array Slot} {rest st0 : List Value} {D : va_G} {A : Nat → Prop} {a : Nat} {rst : va_W} {τ : Nat → ClassId} {own : String} {sA sV : Nat → Nat}
variable {y : MethodName} {b : ByteArray} {mL n lev mc ms index nL cells' slots' : Nat} {ret : Option FieldType} {As : List Value} {Wf : Mem → va_W} {Rf : Mem → Prop} {M0 : Mem}
theorem s_cVi (hx : p.tables.exec = Jvm.exec) (hb : c.code = cc) (hml : c.maxLocals = nL) (hC : cx D τ s m args own) (hLS : LK A s s.heap sA sV) (hA : ∀ q, s.heap.size ≤ q → A q) (hw : wS D A s.heap (Wf M0 ++ rst) H locs) (hl : ls.size = nL) {Q1 : Int → Mem → Prop} (M : Met l y (lw_w y b mL ret) (rmk lev mc ms) (kPc D τ sA sV (Wf M0) H.size (.ref a :: As)) (gQi D (EQi Wf Rf Q1) (va_A (Wf M0) H.size)) mc ms (va_A (Wf M0) H.size)) (K : KV y b mL ret n) (hlk : Cond.methodLink own index y ∈ lw_good) {q0 ci : Nat} {fs : List Value} {T : u_T} {N : Nat} (hci : vwCl[ci]? = some (y.cls, T, N)) (hq0 : (Wf M0)[q0]? = some (a, .inr (ci, fs))) (hst : st0 = As.reverse ++ .ref a :: rest) (hn : As.length = n) (hcat : (rest.map fun v => v.category).sum ≤ 8) (hroom : lev + 1 ≤ R.frames ∧ 8 + (mL + 11) + 64 * lev ≤ R.locals) (hcs : cells + mc ≤ R.cells ∧ slots + ms ≤ R.slots) (hc2 : cells + mc = cells') (hs2 : slots + ms = slots') (hd : decode cc pc = .ok (.invokevirtual index, 3))
    (kk : ∀ (z : Int) (M : Mem) (H : Heap) (locs : List Loc), iR z → Rf M → Q1 z M → wS D A s.heap (Wf M ++ rst) H locs → W p l e R s m args below meth c H locs cells' slots' Q (F0 m (pc + 3) ls (.int (iI z) :: rest))) : W p l e R s m args below meth c H locs cells slots Q (F0 m pc ls st0) :=
  j_cVi hx hb hml hC hLS hA hw hl (wr := rst) M K hlk (List.range (Wf M0).length) ((List.range rst.length).map (fun i => i + (Wf M0).length)) (pick_l _ _) (pick_r _ _) (va_nd_range _) (nd_of (nodup_shift _ _)) (fun i hi h => by
    obtain ⟨j, _, rfl⟩ := List.mem_map.mp hi
    have := List.mem_range.mp h
    omega) hci hq0 hst hn hcat hroom hcs hc2 hs2 hd (fun z M1 H1 locs1 hz hR hQ h1 => kk z M1 H1 locs1 hz hR hQ h1.swap)
theorem s_cVz (hx : p.tables.exec = Jvm.exec) (hb : c.code = cc) (hml : c.maxLocals = nL) (hC : cx D τ s m args own) (hLS : LK A s s.heap sA sV) (hA : ∀ q, s.heap.size ≤ q → A q) (hw : wS D A s.heap (Wf M0 ++ rst) H locs) (hl : ls.size = nL) {Q1 : Int → Mem → Prop} (M : Met l y (lw_w y b mL ret) (rmk lev mc ms) (kPc D τ sA sV (Wf M0) H.size (.ref a :: As)) (gQi D (EQz Wf Rf Q1) (va_A (Wf M0) H.size)) mc ms (va_A (Wf M0) H.size)) (K : KV y b mL ret n) (hlk : Cond.methodLink own index y ∈ lw_good) {q0 ci : Nat} {fs : List Value} {T : u_T} {N : Nat} (hci : vwCl[ci]? = some (y.cls, T, N)) (hq0 : (Wf M0)[q0]? = some (a, .inr (ci, fs))) (hst : st0 = As.reverse ++ .ref a :: rest) (hn : As.length = n) (hcat : (rest.map fun v => v.category).sum ≤ 8) (hroom : lev + 1 ≤ R.frames ∧ 8 + (mL + 11) + 64 * lev ≤ R.locals) (hcs : cells + mc ≤ R.cells ∧ slots + ms ≤ R.slots) (hc2 : cells + mc = cells') (hs2 : slots + ms = slots') (hd : decode cc pc = .ok (.invokevirtual index, 3))
    (kk : ∀ (z : Int) (M : Mem) (H : Heap) (locs : List Loc), iR z → (z = 0 ∨ z = 1) → Rf M → Q1 z M → wS D A s.heap (Wf M ++ rst) H locs → W p l e R s m args below meth c H locs cells' slots' Q (F0 m (pc + 3) ls (.int (iI z) :: rest))) : W p l e R s m args below meth c H locs cells slots Q (F0 m pc ls st0) :=
  j_cVz hx hb hml hC hLS hA hw hl (wr := rst) M K hlk (List.range (Wf M0).length) ((List.range rst.length).map (fun i => i + (Wf M0).length)) (pick_l _ _) (pick_r _ _) (va_nd_range _) (nd_of (nodup_shift _ _)) (fun i hi h => by
    obtain ⟨j, _, rfl⟩ := List.mem_map.mp hi
    have := List.mem_range.mp h
    omega) hci hq0 hst hn hcat hroom hcs hc2 hs2 hd (fun z M1 H1 locs1 hz h01 hR hQ h1 => kk z M1 H1 locs1 hz h01 hR hQ h1.swap)
theorem s_cVl (hx : p.tables.exec = Jvm.exec) (hb : c.code = cc) (hml : c.maxLocals = nL) (hC : cx D τ s m args own) (hLS : LK A s s.heap sA sV) (hA : ∀ q, s.heap.size ≤ q → A q) (hw : wS D A s.heap (Wf M0 ++ rst) H locs) (hl : ls.size = nL) {Q1 : Int → Mem → Prop} (M : Met l y (lw_w y b mL ret) (rmk lev mc ms) (kPc D τ sA sV (Wf M0) H.size (.ref a :: As)) (gQl D (EQi Wf Rf Q1) (va_A (Wf M0) H.size)) mc ms (va_A (Wf M0) H.size)) (K : KV y b mL ret n) (hlk : Cond.methodLink own index y ∈ lw_good) {q0 ci : Nat} {fs : List Value} {T : u_T} {N : Nat} (hci : vwCl[ci]? = some (y.cls, T, N)) (hq0 : (Wf M0)[q0]? = some (a, .inr (ci, fs))) (hst : st0 = As.reverse ++ .ref a :: rest) (hn : As.length = n) (hcat : (rest.map fun v => v.category).sum ≤ 8) (hroom : lev + 1 ≤ R.frames ∧ 8 + (mL + 11) + 64 * lev ≤ R.locals) (hcs : cells + mc ≤ R.cells ∧ slots + ms ≤ R.slots) (hc2 : cells + mc = cells') (hs2 : slots + ms = slots') (hd : decode cc pc = .ok (.invokevirtual index, 3))
    (kk : ∀ (z : Int) (M : Mem) (H : Heap) (locs : List Loc), lR z → Rf M → Q1 z M → wS D A s.heap (Wf M ++ rst) H locs → W p l e R s m args below meth c H locs cells' slots' Q (F0 m (pc + 3) ls (.long (lI z) :: rest))) : W p l e R s m args below meth c H locs cells slots Q (F0 m pc ls st0) :=
  j_cVl hx hb hml hC hLS hA hw hl (wr := rst) M K hlk (List.range (Wf M0).length) ((List.range rst.length).map (fun i => i + (Wf M0).length)) (pick_l _ _) (pick_r _ _) (va_nd_range _) (nd_of (nodup_shift _ _)) (fun i hi h => by
    obtain ⟨j, _, rfl⟩ := List.mem_map.mp hi
    have := List.mem_range.mp h
    omega) hci hq0 hst hn hcat hroom hcs hc2 hs2 hd (fun z M1 H1 locs1 hz hR hQ h1 => kk z M1 H1 locs1 hz hR hQ h1.swap)
end KS
end
section
/-- the world of a fresh object of the reference -/
abbrev WMi (τ : Nat → ClassId) (h0 : Nat) (q : Nat → Nat) : va_W := [(h0, .inr (13, [.int (iI 0), .int (iI 0), .ref (q 0), .int (iI 4), .int (iI 0), .int (iI 0), .int (iI 0), .int (iI 1), .ref (q 1), .ref (q 2), .ref (q 3), .ref (q 4), .ref (q 5), .ref (q 6), .int (iI 0), .int (iI 0), .int (iI 0), .int (iI 0), .ref (q 7), .ref (q 8), .int (iI 0), .ref (q 9), .ref (q 10), .ref (q 11), .int (iI 0), .int (iI 0), .ref (q 12), .ref (q 13), .int (iI 0), .ref (q 14), .int (iI 0), .int (iI 0), .ref (q 15), .ref (q 16), .ref (q 17), .int (iI 0), .ref (q 18), .ref (q 19), .ref (q 20), .int (iI 0), .ref (q 21), .ref (q 22), .int (iI 0), .ref (q 23), .ref (q 24), .int (iI 0), .ref (q 25), .ref (q 26), .ref (q 27), .int (iI 0), .ref (q 28), .ref (q 29), .ref (q 30)])), ((q 0), .inl (τ 1, 24, .inr (.inl (arL (fun _ => 0))))), ((q 1), .inl (τ 2, 30, .inl (ar (fun _ => 0)))), ((q 2), .inl (τ 0, 8, .inl (ar (fun _ => 0)))), ((q 3), .inl (τ 0, 20, .inl (ar (fun _ => 0)))), ((q 4), .inl (τ 0, 38, .inl (ar (fun _ => 0)))), ((q 5), .inl (τ 0, 38, .inl (ar (fun _ => 0)))), ((q 6), .inl (τ 0, 80, .inl (ar (fun _ => 0)))), ((q 7), .inl (τ 2, 30, .inl (ar (fun _ => 0)))), ((q 8), .inl (τ 0, 16, .inl (ar (fun _ => 0)))), ((q 9), .inl (τ 0, 20, .inl (ar (fun _ => 0)))), ((q 10), .inl (τ 0, 80, .inl (ar (fun _ => 0)))), ((q 11), .inl (τ 0, 80, .inl (ar (fun _ => 0)))), ((q 12), .inl (τ 0, 80, .inl (ar (fun _ => 0)))), ((q 13), .inl (τ 0, 7, .inl (ar (fun _ => 0)))), ((q 14), .inl (τ 0, 608, .inl (ar (fun _ => 0)))), ((q 15), .inl (τ 0, 30, .inl (ar (fun _ => 0)))), ((q 16), .inl (τ 0, 8, .inl (ar (fun _ => 0)))), ((q 17), .inl (τ 0, 6, .inl (ar (fun _ => 0)))), ((q 18), .inl (τ 0, 60, .inl (ar (fun _ => 0)))), ((q 19), .inl (τ 0, 60, .inl (ar (fun _ => 0)))), ((q 20), .inl (τ 0, 60, .inl (ar (fun _ => 0)))), ((q 21), .inl (τ 0, 6, .inl (ar (fun _ => 0)))), ((q 22), .inl (τ 0, 6, .inl (ar (fun _ => 0)))), ((q 23), .inl (τ 0, 8, .inl (ar (fun _ => 0)))), ((q 24), .inl (τ 0, 8, .inl (ar (fun _ => 0)))), ((q 25), .inl (τ 0, 8, .inl (ar (fun _ => 0)))), ((q 26), .inl (τ 0, 8, .inl (ar (fun _ => 0)))), ((q 27), .inl (τ 0, 80, .inl (ar (fun _ => 0)))), ((q 28), .inl (τ 2, 3, .inl (ar (fun _ => 0)))), ((q 29), .inl (τ 0, 3, .inl (ar (fun _ => 0)))), ((q 30), .inl (τ 0, 114, .inl (ar (fun _ => 0))))]
abbrev W_c_Model_init (τ : Nat → ClassId) (h0 : Nat) : va_W := [(h0, .inr (13, [.int (iI 0), .int (iI 0), .null, .int (iI 0), .int (iI 0), .int (iI 0), .int (iI 0), .int (iI 0), .null, .null, .null, .null, .null, .null, .int (iI 0), .int (iI 0), .int (iI 0), .int (iI 0), .null, .null, .int (iI 0), .null, .null, .null, .int (iI 0), .int (iI 0), .null, .null, .int (iI 0), .null, .int (iI 0), .int (iI 0), .null, .null, .null, .int (iI 0), .null, .null, .null, .int (iI 0), .null, .null, .int (iI 0), .null, .null, .int (iI 0), .null, .null, .null, .int (iI 0), .null, .null, .null]))]
abbrev E_c_Model_init (τ : Nat → ClassId) (h0 : Nat) : va_W → Prop := fun w => ∃ (q : Nat → Nat), w = WMi τ h0 q
set_option maxHeartbeats 4000000 in
set_option maxRecDepth 100000 in
theorem c_Model_init (l : Launch) (D : va_G) (τ : Nat → ClassId) (sz : Nat) (h0 : Nat)  : Met l yX12_init (lw_w yX12_init cX12_init 1 none) (rmk 1 31 1627) (gPc D τ (W_c_Model_init τ h0) sz [.ref h0]) (gQv D (E_c_Model_init τ h0) (va_A (W_c_Model_init τ h0) sz)) 31 1627 (va_A (W_c_Model_init τ h0) sz) := by
  refine g_met (ret := none) (Qc := gQv D (E_c_Model_init τ h0)) (by decide +kernel) (Nat.le_of_ble_eq_true rfl) ?_
  intro p e s m args below meth c A ls hx hb hml hr hlk hnm hC hA hw hl
  have hC : cx D τ s m args RX12 := hC
  have hl : lv_has ls 1 [(0, .ref h0)] := hl
  have hw : wS D A s.heap [(h0, .inr (13, [.int (iI 0), .int (iI 0), .null, .int (iI 0), .int (iI 0), .int (iI 0), .int (iI 0), .int (iI 0), .null, .null, .null, .null, .null, .null, .int (iI 0), .int (iI 0), .int (iI 0), .int (iI 0), .null, .null, .int (iI 0), .null, .null, .null, .int (iI 0), .int (iI 0), .null, .null, .int (iI 0), .null, .int (iI 0), .int (iI 0), .null, .null, .null, .int (iI 0), .null, .null, .null, .int (iI 0), .null, .null, .int (iI 0), .null, .null, .int (iI 0), .null, .null, .null, .int (iI 0), .null, .null, .null]))] s.heap [] := hw
  refine lv_aload_n hx hb dX12_init_0 rfl (lv_at hl 0 rfl) ?_
  refine r_objInit hx hb hml hC hl.1 ml_X12_3 im_init cd_init (by decide) (Nat.le_of_ble_eq_true rfl) (by decide) dX12_init_1 ?_
  refine lv_aload_n hx hb dX12_init_4 rfl (lv_at hl 0 rfl) ?_
  refine r_bipush hx hb dX12_init_5 (by decide +kernel) ?_
  refine r_newl (N := 24) hx hb hC hA hw ac_long (by decide) (by decide) (by decide) (by decide) rfl rfl dX12_init_7 (fun a1 H hw => ?_)
  have hw : wS D A s.heap [(h0, .inr (13, [.int (iI 0), .int (iI 0), .null, .int (iI 0), .int (iI 0), .int (iI 0), .int (iI 0), .int (iI 0), .null, .null, .null, .null, .null, .null, .int (iI 0), .int (iI 0), .int (iI 0), .int (iI 0), .null, .null, .int (iI 0), .null, .null, .null, .int (iI 0), .int (iI 0), .null, .null, .int (iI 0), .null, .int (iI 0), .int (iI 0), .null, .null, .null, .int (iI 0), .null, .null, .null, .int (iI 0), .null, .null, .int (iI 0), .null, .null, .int (iI 0), .null, .null, .null, .int (iI 0), .null, .null, .null])), (a1, .inl (τ 1, 24, .inr (.inl (arL (fun _ => 0)))))] H _ := hw
  refine pf_X12_9 (ws' := [(h0, .inr (13, [.int (iI 0), .int (iI 0), .ref a1, .int (iI 0), .int (iI 0), .int (iI 0), .int (iI 0), .int (iI 0), .null, .null, .null, .null, .null, .null, .int (iI 0), .int (iI 0), .int (iI 0), .int (iI 0), .null, .null, .int (iI 0), .null, .null, .null, .int (iI 0), .int (iI 0), .null, .null, .int (iI 0), .null, .int (iI 0), .int (iI 0), .null, .null, .null, .int (iI 0), .null, .null, .null, .int (iI 0), .null, .null, .int (iI 0), .null, .null, .int (iI 0), .null, .null, .null, .int (iI 0), .null, .null, .null])), (a1, .inl (τ 1, 24, .inr (.inl (arL (fun _ => 0)))))]) hx hb hC hw hnm 0 rfl (Nat.le_of_ble_eq_true rfl) rfl dX12_init_9 (fun H locs hw => ?_)
  refine lv_aload_n hx hb dX12_init_12 rfl (lv_at hl 0 rfl) ?_
  refine r_iconst hx hb dX12_init_13 ?_
  refine pf_X12_13 (ws' := [(h0, .inr (13, [.int (iI 0), .int (iI 0), .ref a1, .int (iI 4), .int (iI 0), .int (iI 0), .int (iI 0), .int (iI 0), .null, .null, .null, .null, .null, .null, .int (iI 0), .int (iI 0), .int (iI 0), .int (iI 0), .null, .null, .int (iI 0), .null, .null, .null, .int (iI 0), .int (iI 0), .null, .null, .int (iI 0), .null, .int (iI 0), .int (iI 0), .null, .null, .null, .int (iI 0), .null, .null, .null, .int (iI 0), .null, .null, .int (iI 0), .null, .null, .int (iI 0), .null, .null, .null, .int (iI 0), .null, .null, .null])), (a1, .inl (τ 1, 24, .inr (.inl (arL (fun _ => 0)))))]) hx hb hC hw 0 rfl (Nat.le_of_ble_eq_true rfl) rfl dX12_init_14 (fun H locs hw => ?_)
  refine lv_aload_n hx hb dX12_init_17 rfl (lv_at hl 0 rfl) ?_
  refine r_iconst hx hb dX12_init_18 ?_
  refine pf_X12_17 (ws' := [(h0, .inr (13, [.int (iI 0), .int (iI 0), .ref a1, .int (iI 4), .int (iI 0), .int (iI 0), .int (iI 0), .int (iI 1), .null, .null, .null, .null, .null, .null, .int (iI 0), .int (iI 0), .int (iI 0), .int (iI 0), .null, .null, .int (iI 0), .null, .null, .null, .int (iI 0), .int (iI 0), .null, .null, .int (iI 0), .null, .int (iI 0), .int (iI 0), .null, .null, .null, .int (iI 0), .null, .null, .null, .int (iI 0), .null, .null, .int (iI 0), .null, .null, .int (iI 0), .null, .null, .null, .int (iI 0), .null, .null, .null])), (a1, .inl (τ 1, 24, .inr (.inl (arL (fun _ => 0)))))]) hx hb hC hw 0 rfl (Nat.le_of_ble_eq_true rfl) rfl dX12_init_19 (fun H locs hw => ?_)
  refine lv_aload_n hx hb dX12_init_22 rfl (lv_at hl 0 rfl) ?_
  refine r_bipush hx hb dX12_init_23 (by decide +kernel) ?_
  refine r_newz (N := 30) hx hb hC hA hw ac_boolean (by decide) (by decide) (by decide) (by decide) rfl rfl dX12_init_25 (fun a2 H hw => ?_)
  have hw : wS D A s.heap [(h0, .inr (13, [.int (iI 0), .int (iI 0), .ref a1, .int (iI 4), .int (iI 0), .int (iI 0), .int (iI 0), .int (iI 1), .null, .null, .null, .null, .null, .null, .int (iI 0), .int (iI 0), .int (iI 0), .int (iI 0), .null, .null, .int (iI 0), .null, .null, .null, .int (iI 0), .int (iI 0), .null, .null, .int (iI 0), .null, .int (iI 0), .int (iI 0), .null, .null, .null, .int (iI 0), .null, .null, .null, .int (iI 0), .null, .null, .int (iI 0), .null, .null, .int (iI 0), .null, .null, .null, .int (iI 0), .null, .null, .null])), (a1, .inl (τ 1, 24, .inr (.inl (arL (fun _ => 0))))), (a2, .inl (τ 2, 30, .inl (ar (fun _ => 0))))] H _ := hw
  refine pf_X12_20 (ws' := [(h0, .inr (13, [.int (iI 0), .int (iI 0), .ref a1, .int (iI 4), .int (iI 0), .int (iI 0), .int (iI 0), .int (iI 1), .ref a2, .null, .null, .null, .null, .null, .int (iI 0), .int (iI 0), .int (iI 0), .int (iI 0), .null, .null, .int (iI 0), .null, .null, .null, .int (iI 0), .int (iI 0), .null, .null, .int (iI 0), .null, .int (iI 0), .int (iI 0), .null, .null, .null, .int (iI 0), .null, .null, .null, .int (iI 0), .null, .null, .int (iI 0), .null, .null, .int (iI 0), .null, .null, .null, .int (iI 0), .null, .null, .null])), (a1, .inl (τ 1, 24, .inr (.inl (arL (fun _ => 0))))), (a2, .inl (τ 2, 30, .inl (ar (fun _ => 0))))]) hx hb hC hw hnm 0 rfl (Nat.le_of_ble_eq_true rfl) rfl dX12_init_27 (fun H locs hw => ?_)
  refine lv_aload_n hx hb dX12_init_30 rfl (lv_at hl 0 rfl) ?_
  refine r_bipush hx hb dX12_init_31 (by decide +kernel) ?_
  refine r_newi (N := 8) hx hb hC hA hw ac_int (by decide) (by decide) (by decide) (by decide) rfl rfl dX12_init_33 (fun a3 H hw => ?_)
  have hw : wS D A s.heap [(h0, .inr (13, [.int (iI 0), .int (iI 0), .ref a1, .int (iI 4), .int (iI 0), .int (iI 0), .int (iI 0), .int (iI 1), .ref a2, .null, .null, .null, .null, .null, .int (iI 0), .int (iI 0), .int (iI 0), .int (iI 0), .null, .null, .int (iI 0), .null, .null, .null, .int (iI 0), .int (iI 0), .null, .null, .int (iI 0), .null, .int (iI 0), .int (iI 0), .null, .null, .null, .int (iI 0), .null, .null, .null, .int (iI 0), .null, .null, .int (iI 0), .null, .null, .int (iI 0), .null, .null, .null, .int (iI 0), .null, .null, .null])), (a1, .inl (τ 1, 24, .inr (.inl (arL (fun _ => 0))))), (a2, .inl (τ 2, 30, .inl (ar (fun _ => 0)))), (a3, .inl (τ 0, 8, .inl (ar (fun _ => 0))))] H _ := hw
  refine pf_X12_24 (ws' := [(h0, .inr (13, [.int (iI 0), .int (iI 0), .ref a1, .int (iI 4), .int (iI 0), .int (iI 0), .int (iI 0), .int (iI 1), .ref a2, .ref a3, .null, .null, .null, .null, .int (iI 0), .int (iI 0), .int (iI 0), .int (iI 0), .null, .null, .int (iI 0), .null, .null, .null, .int (iI 0), .int (iI 0), .null, .null, .int (iI 0), .null, .int (iI 0), .int (iI 0), .null, .null, .null, .int (iI 0), .null, .null, .null, .int (iI 0), .null, .null, .int (iI 0), .null, .null, .int (iI 0), .null, .null, .null, .int (iI 0), .null, .null, .null])), (a1, .inl (τ 1, 24, .inr (.inl (arL (fun _ => 0))))), (a2, .inl (τ 2, 30, .inl (ar (fun _ => 0)))), (a3, .inl (τ 0, 8, .inl (ar (fun _ => 0))))]) hx hb hC hw hnm 0 rfl (Nat.le_of_ble_eq_true rfl) rfl dX12_init_35 (fun H locs hw => ?_)
  refine lv_aload_n hx hb dX12_init_38 rfl (lv_at hl 0 rfl) ?_
  refine r_bipush hx hb dX12_init_39 (by decide +kernel) ?_
  refine r_newi (N := 20) hx hb hC hA hw ac_int (by decide) (by decide) (by decide) (by decide) rfl rfl dX12_init_41 (fun a4 H hw => ?_)
  have hw : wS D A s.heap [(h0, .inr (13, [.int (iI 0), .int (iI 0), .ref a1, .int (iI 4), .int (iI 0), .int (iI 0), .int (iI 0), .int (iI 1), .ref a2, .ref a3, .null, .null, .null, .null, .int (iI 0), .int (iI 0), .int (iI 0), .int (iI 0), .null, .null, .int (iI 0), .null, .null, .null, .int (iI 0), .int (iI 0), .null, .null, .int (iI 0), .null, .int (iI 0), .int (iI 0), .null, .null, .null, .int (iI 0), .null, .null, .null, .int (iI 0), .null, .null, .int (iI 0), .null, .null, .int (iI 0), .null, .null, .null, .int (iI 0), .null, .null, .null])), (a1, .inl (τ 1, 24, .inr (.inl (arL (fun _ => 0))))), (a2, .inl (τ 2, 30, .inl (ar (fun _ => 0)))), (a3, .inl (τ 0, 8, .inl (ar (fun _ => 0)))), (a4, .inl (τ 0, 20, .inl (ar (fun _ => 0))))] H _ := hw
  refine pf_X12_28 (ws' := [(h0, .inr (13, [.int (iI 0), .int (iI 0), .ref a1, .int (iI 4), .int (iI 0), .int (iI 0), .int (iI 0), .int (iI 1), .ref a2, .ref a3, .ref a4, .null, .null, .null, .int (iI 0), .int (iI 0), .int (iI 0), .int (iI 0), .null, .null, .int (iI 0), .null, .null, .null, .int (iI 0), .int (iI 0), .null, .null, .int (iI 0), .null, .int (iI 0), .int (iI 0), .null, .null, .null, .int (iI 0), .null, .null, .null, .int (iI 0), .null, .null, .int (iI 0), .null, .null, .int (iI 0), .null, .null, .null, .int (iI 0), .null, .null, .null])), (a1, .inl (τ 1, 24, .inr (.inl (arL (fun _ => 0))))), (a2, .inl (τ 2, 30, .inl (ar (fun _ => 0)))), (a3, .inl (τ 0, 8, .inl (ar (fun _ => 0)))), (a4, .inl (τ 0, 20, .inl (ar (fun _ => 0))))]) hx hb hC hw hnm 0 rfl (Nat.le_of_ble_eq_true rfl) rfl dX12_init_43 (fun H locs hw => ?_)
  refine lv_aload_n hx hb dX12_init_46 rfl (lv_at hl 0 rfl) ?_
  refine r_bipush hx hb dX12_init_47 (by decide +kernel) ?_
  refine r_newi (N := 38) hx hb hC hA hw ac_int (by decide) (by decide) (by decide) (by decide) rfl rfl dX12_init_49 (fun a5 H hw => ?_)
  have hw : wS D A s.heap [(h0, .inr (13, [.int (iI 0), .int (iI 0), .ref a1, .int (iI 4), .int (iI 0), .int (iI 0), .int (iI 0), .int (iI 1), .ref a2, .ref a3, .ref a4, .null, .null, .null, .int (iI 0), .int (iI 0), .int (iI 0), .int (iI 0), .null, .null, .int (iI 0), .null, .null, .null, .int (iI 0), .int (iI 0), .null, .null, .int (iI 0), .null, .int (iI 0), .int (iI 0), .null, .null, .null, .int (iI 0), .null, .null, .null, .int (iI 0), .null, .null, .int (iI 0), .null, .null, .int (iI 0), .null, .null, .null, .int (iI 0), .null, .null, .null])), (a1, .inl (τ 1, 24, .inr (.inl (arL (fun _ => 0))))), (a2, .inl (τ 2, 30, .inl (ar (fun _ => 0)))), (a3, .inl (τ 0, 8, .inl (ar (fun _ => 0)))), (a4, .inl (τ 0, 20, .inl (ar (fun _ => 0)))), (a5, .inl (τ 0, 38, .inl (ar (fun _ => 0))))] H _ := hw
  refine pf_X12_31 (ws' := [(h0, .inr (13, [.int (iI 0), .int (iI 0), .ref a1, .int (iI 4), .int (iI 0), .int (iI 0), .int (iI 0), .int (iI 1), .ref a2, .ref a3, .ref a4, .ref a5, .null, .null, .int (iI 0), .int (iI 0), .int (iI 0), .int (iI 0), .null, .null, .int (iI 0), .null, .null, .null, .int (iI 0), .int (iI 0), .null, .null, .int (iI 0), .null, .int (iI 0), .int (iI 0), .null, .null, .null, .int (iI 0), .null, .null, .null, .int (iI 0), .null, .null, .int (iI 0), .null, .null, .int (iI 0), .null, .null, .null, .int (iI 0), .null, .null, .null])), (a1, .inl (τ 1, 24, .inr (.inl (arL (fun _ => 0))))), (a2, .inl (τ 2, 30, .inl (ar (fun _ => 0)))), (a3, .inl (τ 0, 8, .inl (ar (fun _ => 0)))), (a4, .inl (τ 0, 20, .inl (ar (fun _ => 0)))), (a5, .inl (τ 0, 38, .inl (ar (fun _ => 0))))]) hx hb hC hw hnm 0 rfl (Nat.le_of_ble_eq_true rfl) rfl dX12_init_51 (fun H locs hw => ?_)
  refine lv_aload_n hx hb dX12_init_54 rfl (lv_at hl 0 rfl) ?_
  refine r_bipush hx hb dX12_init_55 (by decide +kernel) ?_
  refine r_newi (N := 38) hx hb hC hA hw ac_int (by decide) (by decide) (by decide) (by decide) rfl rfl dX12_init_57 (fun a6 H hw => ?_)
  have hw : wS D A s.heap [(h0, .inr (13, [.int (iI 0), .int (iI 0), .ref a1, .int (iI 4), .int (iI 0), .int (iI 0), .int (iI 0), .int (iI 1), .ref a2, .ref a3, .ref a4, .ref a5, .null, .null, .int (iI 0), .int (iI 0), .int (iI 0), .int (iI 0), .null, .null, .int (iI 0), .null, .null, .null, .int (iI 0), .int (iI 0), .null, .null, .int (iI 0), .null, .int (iI 0), .int (iI 0), .null, .null, .null, .int (iI 0), .null, .null, .null, .int (iI 0), .null, .null, .int (iI 0), .null, .null, .int (iI 0), .null, .null, .null, .int (iI 0), .null, .null, .null])), (a1, .inl (τ 1, 24, .inr (.inl (arL (fun _ => 0))))), (a2, .inl (τ 2, 30, .inl (ar (fun _ => 0)))), (a3, .inl (τ 0, 8, .inl (ar (fun _ => 0)))), (a4, .inl (τ 0, 20, .inl (ar (fun _ => 0)))), (a5, .inl (τ 0, 38, .inl (ar (fun _ => 0)))), (a6, .inl (τ 0, 38, .inl (ar (fun _ => 0))))] H _ := hw
  refine pf_X12_34 (ws' := [(h0, .inr (13, [.int (iI 0), .int (iI 0), .ref a1, .int (iI 4), .int (iI 0), .int (iI 0), .int (iI 0), .int (iI 1), .ref a2, .ref a3, .ref a4, .ref a5, .ref a6, .null, .int (iI 0), .int (iI 0), .int (iI 0), .int (iI 0), .null, .null, .int (iI 0), .null, .null, .null, .int (iI 0), .int (iI 0), .null, .null, .int (iI 0), .null, .int (iI 0), .int (iI 0), .null, .null, .null, .int (iI 0), .null, .null, .null, .int (iI 0), .null, .null, .int (iI 0), .null, .null, .int (iI 0), .null, .null, .null, .int (iI 0), .null, .null, .null])), (a1, .inl (τ 1, 24, .inr (.inl (arL (fun _ => 0))))), (a2, .inl (τ 2, 30, .inl (ar (fun _ => 0)))), (a3, .inl (τ 0, 8, .inl (ar (fun _ => 0)))), (a4, .inl (τ 0, 20, .inl (ar (fun _ => 0)))), (a5, .inl (τ 0, 38, .inl (ar (fun _ => 0)))), (a6, .inl (τ 0, 38, .inl (ar (fun _ => 0))))]) hx hb hC hw hnm 0 rfl (Nat.le_of_ble_eq_true rfl) rfl dX12_init_59 (fun H locs hw => ?_)
  refine lv_aload_n hx hb dX12_init_62 rfl (lv_at hl 0 rfl) ?_
  refine r_bipush hx hb dX12_init_63 (by decide +kernel) ?_
  refine r_newi (N := 80) hx hb hC hA hw ac_int (by decide) (by decide) (by decide) (by decide) rfl rfl dX12_init_65 (fun a7 H hw => ?_)
  have hw : wS D A s.heap [(h0, .inr (13, [.int (iI 0), .int (iI 0), .ref a1, .int (iI 4), .int (iI 0), .int (iI 0), .int (iI 0), .int (iI 1), .ref a2, .ref a3, .ref a4, .ref a5, .ref a6, .null, .int (iI 0), .int (iI 0), .int (iI 0), .int (iI 0), .null, .null, .int (iI 0), .null, .null, .null, .int (iI 0), .int (iI 0), .null, .null, .int (iI 0), .null, .int (iI 0), .int (iI 0), .null, .null, .null, .int (iI 0), .null, .null, .null, .int (iI 0), .null, .null, .int (iI 0), .null, .null, .int (iI 0), .null, .null, .null, .int (iI 0), .null, .null, .null])), (a1, .inl (τ 1, 24, .inr (.inl (arL (fun _ => 0))))), (a2, .inl (τ 2, 30, .inl (ar (fun _ => 0)))), (a3, .inl (τ 0, 8, .inl (ar (fun _ => 0)))), (a4, .inl (τ 0, 20, .inl (ar (fun _ => 0)))), (a5, .inl (τ 0, 38, .inl (ar (fun _ => 0)))), (a6, .inl (τ 0, 38, .inl (ar (fun _ => 0)))), (a7, .inl (τ 0, 80, .inl (ar (fun _ => 0))))] H _ := hw
  refine pf_X12_37 (ws' := [(h0, .inr (13, [.int (iI 0), .int (iI 0), .ref a1, .int (iI 4), .int (iI 0), .int (iI 0), .int (iI 0), .int (iI 1), .ref a2, .ref a3, .ref a4, .ref a5, .ref a6, .ref a7, .int (iI 0), .int (iI 0), .int (iI 0), .int (iI 0), .null, .null, .int (iI 0), .null, .null, .null, .int (iI 0), .int (iI 0), .null, .null, .int (iI 0), .null, .int (iI 0), .int (iI 0), .null, .null, .null, .int (iI 0), .null, .null, .null, .int (iI 0), .null, .null, .int (iI 0), .null, .null, .int (iI 0), .null, .null, .null, .int (iI 0), .null, .null, .null])), (a1, .inl (τ 1, 24, .inr (.inl (arL (fun _ => 0))))), (a2, .inl (τ 2, 30, .inl (ar (fun _ => 0)))), (a3, .inl (τ 0, 8, .inl (ar (fun _ => 0)))), (a4, .inl (τ 0, 20, .inl (ar (fun _ => 0)))), (a5, .inl (τ 0, 38, .inl (ar (fun _ => 0)))), (a6, .inl (τ 0, 38, .inl (ar (fun _ => 0)))), (a7, .inl (τ 0, 80, .inl (ar (fun _ => 0))))]) hx hb hC hw hnm 0 rfl (Nat.le_of_ble_eq_true rfl) rfl dX12_init_67 (fun H locs hw => ?_)
  refine lv_aload_n hx hb dX12_init_70 rfl (lv_at hl 0 rfl) ?_
  refine r_bipush hx hb dX12_init_71 (by decide +kernel) ?_
  refine r_newz (N := 30) hx hb hC hA hw ac_boolean (by decide) (by decide) (by decide) (by decide) rfl rfl dX12_init_73 (fun a8 H hw => ?_)
  have hw : wS D A s.heap [(h0, .inr (13, [.int (iI 0), .int (iI 0), .ref a1, .int (iI 4), .int (iI 0), .int (iI 0), .int (iI 0), .int (iI 1), .ref a2, .ref a3, .ref a4, .ref a5, .ref a6, .ref a7, .int (iI 0), .int (iI 0), .int (iI 0), .int (iI 0), .null, .null, .int (iI 0), .null, .null, .null, .int (iI 0), .int (iI 0), .null, .null, .int (iI 0), .null, .int (iI 0), .int (iI 0), .null, .null, .null, .int (iI 0), .null, .null, .null, .int (iI 0), .null, .null, .int (iI 0), .null, .null, .int (iI 0), .null, .null, .null, .int (iI 0), .null, .null, .null])), (a1, .inl (τ 1, 24, .inr (.inl (arL (fun _ => 0))))), (a2, .inl (τ 2, 30, .inl (ar (fun _ => 0)))), (a3, .inl (τ 0, 8, .inl (ar (fun _ => 0)))), (a4, .inl (τ 0, 20, .inl (ar (fun _ => 0)))), (a5, .inl (τ 0, 38, .inl (ar (fun _ => 0)))), (a6, .inl (τ 0, 38, .inl (ar (fun _ => 0)))), (a7, .inl (τ 0, 80, .inl (ar (fun _ => 0)))), (a8, .inl (τ 2, 30, .inl (ar (fun _ => 0))))] H _ := hw
  refine pf_X12_40 (ws' := [(h0, .inr (13, [.int (iI 0), .int (iI 0), .ref a1, .int (iI 4), .int (iI 0), .int (iI 0), .int (iI 0), .int (iI 1), .ref a2, .ref a3, .ref a4, .ref a5, .ref a6, .ref a7, .int (iI 0), .int (iI 0), .int (iI 0), .int (iI 0), .ref a8, .null, .int (iI 0), .null, .null, .null, .int (iI 0), .int (iI 0), .null, .null, .int (iI 0), .null, .int (iI 0), .int (iI 0), .null, .null, .null, .int (iI 0), .null, .null, .null, .int (iI 0), .null, .null, .int (iI 0), .null, .null, .int (iI 0), .null, .null, .null, .int (iI 0), .null, .null, .null])), (a1, .inl (τ 1, 24, .inr (.inl (arL (fun _ => 0))))), (a2, .inl (τ 2, 30, .inl (ar (fun _ => 0)))), (a3, .inl (τ 0, 8, .inl (ar (fun _ => 0)))), (a4, .inl (τ 0, 20, .inl (ar (fun _ => 0)))), (a5, .inl (τ 0, 38, .inl (ar (fun _ => 0)))), (a6, .inl (τ 0, 38, .inl (ar (fun _ => 0)))), (a7, .inl (τ 0, 80, .inl (ar (fun _ => 0)))), (a8, .inl (τ 2, 30, .inl (ar (fun _ => 0))))]) hx hb hC hw hnm 0 rfl (Nat.le_of_ble_eq_true rfl) rfl dX12_init_75 (fun H locs hw => ?_)
  refine lv_aload_n hx hb dX12_init_78 rfl (lv_at hl 0 rfl) ?_
  refine r_bipush hx hb dX12_init_79 (by decide +kernel) ?_
  refine r_newi (N := 16) hx hb hC hA hw ac_int (by decide) (by decide) (by decide) (by decide) rfl rfl dX12_init_81 (fun a9 H hw => ?_)
  have hw : wS D A s.heap [(h0, .inr (13, [.int (iI 0), .int (iI 0), .ref a1, .int (iI 4), .int (iI 0), .int (iI 0), .int (iI 0), .int (iI 1), .ref a2, .ref a3, .ref a4, .ref a5, .ref a6, .ref a7, .int (iI 0), .int (iI 0), .int (iI 0), .int (iI 0), .ref a8, .null, .int (iI 0), .null, .null, .null, .int (iI 0), .int (iI 0), .null, .null, .int (iI 0), .null, .int (iI 0), .int (iI 0), .null, .null, .null, .int (iI 0), .null, .null, .null, .int (iI 0), .null, .null, .int (iI 0), .null, .null, .int (iI 0), .null, .null, .null, .int (iI 0), .null, .null, .null])), (a1, .inl (τ 1, 24, .inr (.inl (arL (fun _ => 0))))), (a2, .inl (τ 2, 30, .inl (ar (fun _ => 0)))), (a3, .inl (τ 0, 8, .inl (ar (fun _ => 0)))), (a4, .inl (τ 0, 20, .inl (ar (fun _ => 0)))), (a5, .inl (τ 0, 38, .inl (ar (fun _ => 0)))), (a6, .inl (τ 0, 38, .inl (ar (fun _ => 0)))), (a7, .inl (τ 0, 80, .inl (ar (fun _ => 0)))), (a8, .inl (τ 2, 30, .inl (ar (fun _ => 0)))), (a9, .inl (τ 0, 16, .inl (ar (fun _ => 0))))] H _ := hw
  refine pf_X12_43 (ws' := [(h0, .inr (13, [.int (iI 0), .int (iI 0), .ref a1, .int (iI 4), .int (iI 0), .int (iI 0), .int (iI 0), .int (iI 1), .ref a2, .ref a3, .ref a4, .ref a5, .ref a6, .ref a7, .int (iI 0), .int (iI 0), .int (iI 0), .int (iI 0), .ref a8, .ref a9, .int (iI 0), .null, .null, .null, .int (iI 0), .int (iI 0), .null, .null, .int (iI 0), .null, .int (iI 0), .int (iI 0), .null, .null, .null, .int (iI 0), .null, .null, .null, .int (iI 0), .null, .null, .int (iI 0), .null, .null, .int (iI 0), .null, .null, .null, .int (iI 0), .null, .null, .null])), (a1, .inl (τ 1, 24, .inr (.inl (arL (fun _ => 0))))), (a2, .inl (τ 2, 30, .inl (ar (fun _ => 0)))), (a3, .inl (τ 0, 8, .inl (ar (fun _ => 0)))), (a4, .inl (τ 0, 20, .inl (ar (fun _ => 0)))), (a5, .inl (τ 0, 38, .inl (ar (fun _ => 0)))), (a6, .inl (τ 0, 38, .inl (ar (fun _ => 0)))), (a7, .inl (τ 0, 80, .inl (ar (fun _ => 0)))), (a8, .inl (τ 2, 30, .inl (ar (fun _ => 0)))), (a9, .inl (τ 0, 16, .inl (ar (fun _ => 0))))]) hx hb hC hw hnm 0 rfl (Nat.le_of_ble_eq_true rfl) rfl dX12_init_83 (fun H locs hw => ?_)
  refine lv_aload_n hx hb dX12_init_86 rfl (lv_at hl 0 rfl) ?_
  refine r_bipush hx hb dX12_init_87 (by decide +kernel) ?_
  refine r_newi (N := 20) hx hb hC hA hw ac_int (by decide) (by decide) (by decide) (by decide) rfl rfl dX12_init_89 (fun a10 H hw => ?_)
  have hw : wS D A s.heap [(h0, .inr (13, [.int (iI 0), .int (iI 0), .ref a1, .int (iI 4), .int (iI 0), .int (iI 0), .int (iI 0), .int (iI 1), .ref a2, .ref a3, .ref a4, .ref a5, .ref a6, .ref a7, .int (iI 0), .int (iI 0), .int (iI 0), .int (iI 0), .ref a8, .ref a9, .int (iI 0), .null, .null, .null, .int (iI 0), .int (iI 0), .null, .null, .int (iI 0), .null, .int (iI 0), .int (iI 0), .null, .null, .null, .int (iI 0), .null, .null, .null, .int (iI 0), .null, .null, .int (iI 0), .null, .null, .int (iI 0), .null, .null, .null, .int (iI 0), .null, .null, .null])), (a1, .inl (τ 1, 24, .inr (.inl (arL (fun _ => 0))))), (a2, .inl (τ 2, 30, .inl (ar (fun _ => 0)))), (a3, .inl (τ 0, 8, .inl (ar (fun _ => 0)))), (a4, .inl (τ 0, 20, .inl (ar (fun _ => 0)))), (a5, .inl (τ 0, 38, .inl (ar (fun _ => 0)))), (a6, .inl (τ 0, 38, .inl (ar (fun _ => 0)))), (a7, .inl (τ 0, 80, .inl (ar (fun _ => 0)))), (a8, .inl (τ 2, 30, .inl (ar (fun _ => 0)))), (a9, .inl (τ 0, 16, .inl (ar (fun _ => 0)))), (a10, .inl (τ 0, 20, .inl (ar (fun _ => 0))))] H _ := hw
  refine pf_X12_46 (ws' := [(h0, .inr (13, [.int (iI 0), .int (iI 0), .ref a1, .int (iI 4), .int (iI 0), .int (iI 0), .int (iI 0), .int (iI 1), .ref a2, .ref a3, .ref a4, .ref a5, .ref a6, .ref a7, .int (iI 0), .int (iI 0), .int (iI 0), .int (iI 0), .ref a8, .ref a9, .int (iI 0), .ref a10, .null, .null, .int (iI 0), .int (iI 0), .null, .null, .int (iI 0), .null, .int (iI 0), .int (iI 0), .null, .null, .null, .int (iI 0), .null, .null, .null, .int (iI 0), .null, .null, .int (iI 0), .null, .null, .int (iI 0), .null, .null, .null, .int (iI 0), .null, .null, .null])), (a1, .inl (τ 1, 24, .inr (.inl (arL (fun _ => 0))))), (a2, .inl (τ 2, 30, .inl (ar (fun _ => 0)))), (a3, .inl (τ 0, 8, .inl (ar (fun _ => 0)))), (a4, .inl (τ 0, 20, .inl (ar (fun _ => 0)))), (a5, .inl (τ 0, 38, .inl (ar (fun _ => 0)))), (a6, .inl (τ 0, 38, .inl (ar (fun _ => 0)))), (a7, .inl (τ 0, 80, .inl (ar (fun _ => 0)))), (a8, .inl (τ 2, 30, .inl (ar (fun _ => 0)))), (a9, .inl (τ 0, 16, .inl (ar (fun _ => 0)))), (a10, .inl (τ 0, 20, .inl (ar (fun _ => 0))))]) hx hb hC hw hnm 0 rfl (Nat.le_of_ble_eq_true rfl) rfl dX12_init_91 (fun H locs hw => ?_)
  refine lv_aload_n hx hb dX12_init_94 rfl (lv_at hl 0 rfl) ?_
  refine r_bipush hx hb dX12_init_95 (by decide +kernel) ?_
  refine r_newi (N := 80) hx hb hC hA hw ac_int (by decide) (by decide) (by decide) (by decide) rfl rfl dX12_init_97 (fun a11 H hw => ?_)
  have hw : wS D A s.heap [(h0, .inr (13, [.int (iI 0), .int (iI 0), .ref a1, .int (iI 4), .int (iI 0), .int (iI 0), .int (iI 0), .int (iI 1), .ref a2, .ref a3, .ref a4, .ref a5, .ref a6, .ref a7, .int (iI 0), .int (iI 0), .int (iI 0), .int (iI 0), .ref a8, .ref a9, .int (iI 0), .ref a10, .null, .null, .int (iI 0), .int (iI 0), .null, .null, .int (iI 0), .null, .int (iI 0), .int (iI 0), .null, .null, .null, .int (iI 0), .null, .null, .null, .int (iI 0), .null, .null, .int (iI 0), .null, .null, .int (iI 0), .null, .null, .null, .int (iI 0), .null, .null, .null])), (a1, .inl (τ 1, 24, .inr (.inl (arL (fun _ => 0))))), (a2, .inl (τ 2, 30, .inl (ar (fun _ => 0)))), (a3, .inl (τ 0, 8, .inl (ar (fun _ => 0)))), (a4, .inl (τ 0, 20, .inl (ar (fun _ => 0)))), (a5, .inl (τ 0, 38, .inl (ar (fun _ => 0)))), (a6, .inl (τ 0, 38, .inl (ar (fun _ => 0)))), (a7, .inl (τ 0, 80, .inl (ar (fun _ => 0)))), (a8, .inl (τ 2, 30, .inl (ar (fun _ => 0)))), (a9, .inl (τ 0, 16, .inl (ar (fun _ => 0)))), (a10, .inl (τ 0, 20, .inl (ar (fun _ => 0)))), (a11, .inl (τ 0, 80, .inl (ar (fun _ => 0))))] H _ := hw
  refine pf_X12_49 (ws' := [(h0, .inr (13, [.int (iI 0), .int (iI 0), .ref a1, .int (iI 4), .int (iI 0), .int (iI 0), .int (iI 0), .int (iI 1), .ref a2, .ref a3, .ref a4, .ref a5, .ref a6, .ref a7, .int (iI 0), .int (iI 0), .int (iI 0), .int (iI 0), .ref a8, .ref a9, .int (iI 0), .ref a10, .ref a11, .null, .int (iI 0), .int (iI 0), .null, .null, .int (iI 0), .null, .int (iI 0), .int (iI 0), .null, .null, .null, .int (iI 0), .null, .null, .null, .int (iI 0), .null, .null, .int (iI 0), .null, .null, .int (iI 0), .null, .null, .null, .int (iI 0), .null, .null, .null])), (a1, .inl (τ 1, 24, .inr (.inl (arL (fun _ => 0))))), (a2, .inl (τ 2, 30, .inl (ar (fun _ => 0)))), (a3, .inl (τ 0, 8, .inl (ar (fun _ => 0)))), (a4, .inl (τ 0, 20, .inl (ar (fun _ => 0)))), (a5, .inl (τ 0, 38, .inl (ar (fun _ => 0)))), (a6, .inl (τ 0, 38, .inl (ar (fun _ => 0)))), (a7, .inl (τ 0, 80, .inl (ar (fun _ => 0)))), (a8, .inl (τ 2, 30, .inl (ar (fun _ => 0)))), (a9, .inl (τ 0, 16, .inl (ar (fun _ => 0)))), (a10, .inl (τ 0, 20, .inl (ar (fun _ => 0)))), (a11, .inl (τ 0, 80, .inl (ar (fun _ => 0))))]) hx hb hC hw hnm 0 rfl (Nat.le_of_ble_eq_true rfl) rfl dX12_init_99 (fun H locs hw => ?_)
  refine lv_aload_n hx hb dX12_init_102 rfl (lv_at hl 0 rfl) ?_
  refine r_bipush hx hb dX12_init_103 (by decide +kernel) ?_
  refine r_newi (N := 80) hx hb hC hA hw ac_int (by decide) (by decide) (by decide) (by decide) rfl rfl dX12_init_105 (fun a12 H hw => ?_)
  have hw : wS D A s.heap [(h0, .inr (13, [.int (iI 0), .int (iI 0), .ref a1, .int (iI 4), .int (iI 0), .int (iI 0), .int (iI 0), .int (iI 1), .ref a2, .ref a3, .ref a4, .ref a5, .ref a6, .ref a7, .int (iI 0), .int (iI 0), .int (iI 0), .int (iI 0), .ref a8, .ref a9, .int (iI 0), .ref a10, .ref a11, .null, .int (iI 0), .int (iI 0), .null, .null, .int (iI 0), .null, .int (iI 0), .int (iI 0), .null, .null, .null, .int (iI 0), .null, .null, .null, .int (iI 0), .null, .null, .int (iI 0), .null, .null, .int (iI 0), .null, .null, .null, .int (iI 0), .null, .null, .null])), (a1, .inl (τ 1, 24, .inr (.inl (arL (fun _ => 0))))), (a2, .inl (τ 2, 30, .inl (ar (fun _ => 0)))), (a3, .inl (τ 0, 8, .inl (ar (fun _ => 0)))), (a4, .inl (τ 0, 20, .inl (ar (fun _ => 0)))), (a5, .inl (τ 0, 38, .inl (ar (fun _ => 0)))), (a6, .inl (τ 0, 38, .inl (ar (fun _ => 0)))), (a7, .inl (τ 0, 80, .inl (ar (fun _ => 0)))), (a8, .inl (τ 2, 30, .inl (ar (fun _ => 0)))), (a9, .inl (τ 0, 16, .inl (ar (fun _ => 0)))), (a10, .inl (τ 0, 20, .inl (ar (fun _ => 0)))), (a11, .inl (τ 0, 80, .inl (ar (fun _ => 0)))), (a12, .inl (τ 0, 80, .inl (ar (fun _ => 0))))] H _ := hw
  refine pf_X12_52 (ws' := [(h0, .inr (13, [.int (iI 0), .int (iI 0), .ref a1, .int (iI 4), .int (iI 0), .int (iI 0), .int (iI 0), .int (iI 1), .ref a2, .ref a3, .ref a4, .ref a5, .ref a6, .ref a7, .int (iI 0), .int (iI 0), .int (iI 0), .int (iI 0), .ref a8, .ref a9, .int (iI 0), .ref a10, .ref a11, .ref a12, .int (iI 0), .int (iI 0), .null, .null, .int (iI 0), .null, .int (iI 0), .int (iI 0), .null, .null, .null, .int (iI 0), .null, .null, .null, .int (iI 0), .null, .null, .int (iI 0), .null, .null, .int (iI 0), .null, .null, .null, .int (iI 0), .null, .null, .null])), (a1, .inl (τ 1, 24, .inr (.inl (arL (fun _ => 0))))), (a2, .inl (τ 2, 30, .inl (ar (fun _ => 0)))), (a3, .inl (τ 0, 8, .inl (ar (fun _ => 0)))), (a4, .inl (τ 0, 20, .inl (ar (fun _ => 0)))), (a5, .inl (τ 0, 38, .inl (ar (fun _ => 0)))), (a6, .inl (τ 0, 38, .inl (ar (fun _ => 0)))), (a7, .inl (τ 0, 80, .inl (ar (fun _ => 0)))), (a8, .inl (τ 2, 30, .inl (ar (fun _ => 0)))), (a9, .inl (τ 0, 16, .inl (ar (fun _ => 0)))), (a10, .inl (τ 0, 20, .inl (ar (fun _ => 0)))), (a11, .inl (τ 0, 80, .inl (ar (fun _ => 0)))), (a12, .inl (τ 0, 80, .inl (ar (fun _ => 0))))]) hx hb hC hw hnm 0 rfl (Nat.le_of_ble_eq_true rfl) rfl dX12_init_107 (fun H locs hw => ?_)
  refine lv_aload_n hx hb dX12_init_110 rfl (lv_at hl 0 rfl) ?_
  refine r_bipush hx hb dX12_init_111 (by decide +kernel) ?_
  refine r_newi (N := 80) hx hb hC hA hw ac_int (by decide) (by decide) (by decide) (by decide) rfl rfl dX12_init_113 (fun a13 H hw => ?_)
  have hw : wS D A s.heap [(h0, .inr (13, [.int (iI 0), .int (iI 0), .ref a1, .int (iI 4), .int (iI 0), .int (iI 0), .int (iI 0), .int (iI 1), .ref a2, .ref a3, .ref a4, .ref a5, .ref a6, .ref a7, .int (iI 0), .int (iI 0), .int (iI 0), .int (iI 0), .ref a8, .ref a9, .int (iI 0), .ref a10, .ref a11, .ref a12, .int (iI 0), .int (iI 0), .null, .null, .int (iI 0), .null, .int (iI 0), .int (iI 0), .null, .null, .null, .int (iI 0), .null, .null, .null, .int (iI 0), .null, .null, .int (iI 0), .null, .null, .int (iI 0), .null, .null, .null, .int (iI 0), .null, .null, .null])), (a1, .inl (τ 1, 24, .inr (.inl (arL (fun _ => 0))))), (a2, .inl (τ 2, 30, .inl (ar (fun _ => 0)))), (a3, .inl (τ 0, 8, .inl (ar (fun _ => 0)))), (a4, .inl (τ 0, 20, .inl (ar (fun _ => 0)))), (a5, .inl (τ 0, 38, .inl (ar (fun _ => 0)))), (a6, .inl (τ 0, 38, .inl (ar (fun _ => 0)))), (a7, .inl (τ 0, 80, .inl (ar (fun _ => 0)))), (a8, .inl (τ 2, 30, .inl (ar (fun _ => 0)))), (a9, .inl (τ 0, 16, .inl (ar (fun _ => 0)))), (a10, .inl (τ 0, 20, .inl (ar (fun _ => 0)))), (a11, .inl (τ 0, 80, .inl (ar (fun _ => 0)))), (a12, .inl (τ 0, 80, .inl (ar (fun _ => 0)))), (a13, .inl (τ 0, 80, .inl (ar (fun _ => 0))))] H _ := hw
  refine pf_X12_55 (ws' := [(h0, .inr (13, [.int (iI 0), .int (iI 0), .ref a1, .int (iI 4), .int (iI 0), .int (iI 0), .int (iI 0), .int (iI 1), .ref a2, .ref a3, .ref a4, .ref a5, .ref a6, .ref a7, .int (iI 0), .int (iI 0), .int (iI 0), .int (iI 0), .ref a8, .ref a9, .int (iI 0), .ref a10, .ref a11, .ref a12, .int (iI 0), .int (iI 0), .ref a13, .null, .int (iI 0), .null, .int (iI 0), .int (iI 0), .null, .null, .null, .int (iI 0), .null, .null, .null, .int (iI 0), .null, .null, .int (iI 0), .null, .null, .int (iI 0), .null, .null, .null, .int (iI 0), .null, .null, .null])), (a1, .inl (τ 1, 24, .inr (.inl (arL (fun _ => 0))))), (a2, .inl (τ 2, 30, .inl (ar (fun _ => 0)))), (a3, .inl (τ 0, 8, .inl (ar (fun _ => 0)))), (a4, .inl (τ 0, 20, .inl (ar (fun _ => 0)))), (a5, .inl (τ 0, 38, .inl (ar (fun _ => 0)))), (a6, .inl (τ 0, 38, .inl (ar (fun _ => 0)))), (a7, .inl (τ 0, 80, .inl (ar (fun _ => 0)))), (a8, .inl (τ 2, 30, .inl (ar (fun _ => 0)))), (a9, .inl (τ 0, 16, .inl (ar (fun _ => 0)))), (a10, .inl (τ 0, 20, .inl (ar (fun _ => 0)))), (a11, .inl (τ 0, 80, .inl (ar (fun _ => 0)))), (a12, .inl (τ 0, 80, .inl (ar (fun _ => 0)))), (a13, .inl (τ 0, 80, .inl (ar (fun _ => 0))))]) hx hb hC hw hnm 0 rfl (Nat.le_of_ble_eq_true rfl) rfl dX12_init_115 (fun H locs hw => ?_)
  refine lv_aload_n hx hb dX12_init_118 rfl (lv_at hl 0 rfl) ?_
  refine r_bipush hx hb dX12_init_119 (by decide +kernel) ?_
  refine r_newi (N := 7) hx hb hC hA hw ac_int (by decide) (by decide) (by decide) (by decide) rfl rfl dX12_init_121 (fun a14 H hw => ?_)
  have hw : wS D A s.heap [(h0, .inr (13, [.int (iI 0), .int (iI 0), .ref a1, .int (iI 4), .int (iI 0), .int (iI 0), .int (iI 0), .int (iI 1), .ref a2, .ref a3, .ref a4, .ref a5, .ref a6, .ref a7, .int (iI 0), .int (iI 0), .int (iI 0), .int (iI 0), .ref a8, .ref a9, .int (iI 0), .ref a10, .ref a11, .ref a12, .int (iI 0), .int (iI 0), .ref a13, .null, .int (iI 0), .null, .int (iI 0), .int (iI 0), .null, .null, .null, .int (iI 0), .null, .null, .null, .int (iI 0), .null, .null, .int (iI 0), .null, .null, .int (iI 0), .null, .null, .null, .int (iI 0), .null, .null, .null])), (a1, .inl (τ 1, 24, .inr (.inl (arL (fun _ => 0))))), (a2, .inl (τ 2, 30, .inl (ar (fun _ => 0)))), (a3, .inl (τ 0, 8, .inl (ar (fun _ => 0)))), (a4, .inl (τ 0, 20, .inl (ar (fun _ => 0)))), (a5, .inl (τ 0, 38, .inl (ar (fun _ => 0)))), (a6, .inl (τ 0, 38, .inl (ar (fun _ => 0)))), (a7, .inl (τ 0, 80, .inl (ar (fun _ => 0)))), (a8, .inl (τ 2, 30, .inl (ar (fun _ => 0)))), (a9, .inl (τ 0, 16, .inl (ar (fun _ => 0)))), (a10, .inl (τ 0, 20, .inl (ar (fun _ => 0)))), (a11, .inl (τ 0, 80, .inl (ar (fun _ => 0)))), (a12, .inl (τ 0, 80, .inl (ar (fun _ => 0)))), (a13, .inl (τ 0, 80, .inl (ar (fun _ => 0)))), (a14, .inl (τ 0, 7, .inl (ar (fun _ => 0))))] H _ := hw
  refine pf_X12_58 (ws' := [(h0, .inr (13, [.int (iI 0), .int (iI 0), .ref a1, .int (iI 4), .int (iI 0), .int (iI 0), .int (iI 0), .int (iI 1), .ref a2, .ref a3, .ref a4, .ref a5, .ref a6, .ref a7, .int (iI 0), .int (iI 0), .int (iI 0), .int (iI 0), .ref a8, .ref a9, .int (iI 0), .ref a10, .ref a11, .ref a12, .int (iI 0), .int (iI 0), .ref a13, .ref a14, .int (iI 0), .null, .int (iI 0), .int (iI 0), .null, .null, .null, .int (iI 0), .null, .null, .null, .int (iI 0), .null, .null, .int (iI 0), .null, .null, .int (iI 0), .null, .null, .null, .int (iI 0), .null, .null, .null])), (a1, .inl (τ 1, 24, .inr (.inl (arL (fun _ => 0))))), (a2, .inl (τ 2, 30, .inl (ar (fun _ => 0)))), (a3, .inl (τ 0, 8, .inl (ar (fun _ => 0)))), (a4, .inl (τ 0, 20, .inl (ar (fun _ => 0)))), (a5, .inl (τ 0, 38, .inl (ar (fun _ => 0)))), (a6, .inl (τ 0, 38, .inl (ar (fun _ => 0)))), (a7, .inl (τ 0, 80, .inl (ar (fun _ => 0)))), (a8, .inl (τ 2, 30, .inl (ar (fun _ => 0)))), (a9, .inl (τ 0, 16, .inl (ar (fun _ => 0)))), (a10, .inl (τ 0, 20, .inl (ar (fun _ => 0)))), (a11, .inl (τ 0, 80, .inl (ar (fun _ => 0)))), (a12, .inl (τ 0, 80, .inl (ar (fun _ => 0)))), (a13, .inl (τ 0, 80, .inl (ar (fun _ => 0)))), (a14, .inl (τ 0, 7, .inl (ar (fun _ => 0))))]) hx hb hC hw hnm 0 rfl (Nat.le_of_ble_eq_true rfl) rfl dX12_init_123 (fun H locs hw => ?_)
  refine lv_aload_n hx hb dX12_init_126 rfl (lv_at hl 0 rfl) ?_
  refine r_sipush hx hb dX12_init_127 (by decide +kernel) ?_
  refine r_newi (N := 608) hx hb hC hA hw ac_int (by decide) (by decide) (by decide) (by decide) rfl rfl dX12_init_130 (fun a15 H hw => ?_)
  have hw : wS D A s.heap [(h0, .inr (13, [.int (iI 0), .int (iI 0), .ref a1, .int (iI 4), .int (iI 0), .int (iI 0), .int (iI 0), .int (iI 1), .ref a2, .ref a3, .ref a4, .ref a5, .ref a6, .ref a7, .int (iI 0), .int (iI 0), .int (iI 0), .int (iI 0), .ref a8, .ref a9, .int (iI 0), .ref a10, .ref a11, .ref a12, .int (iI 0), .int (iI 0), .ref a13, .ref a14, .int (iI 0), .null, .int (iI 0), .int (iI 0), .null, .null, .null, .int (iI 0), .null, .null, .null, .int (iI 0), .null, .null, .int (iI 0), .null, .null, .int (iI 0), .null, .null, .null, .int (iI 0), .null, .null, .null])), (a1, .inl (τ 1, 24, .inr (.inl (arL (fun _ => 0))))), (a2, .inl (τ 2, 30, .inl (ar (fun _ => 0)))), (a3, .inl (τ 0, 8, .inl (ar (fun _ => 0)))), (a4, .inl (τ 0, 20, .inl (ar (fun _ => 0)))), (a5, .inl (τ 0, 38, .inl (ar (fun _ => 0)))), (a6, .inl (τ 0, 38, .inl (ar (fun _ => 0)))), (a7, .inl (τ 0, 80, .inl (ar (fun _ => 0)))), (a8, .inl (τ 2, 30, .inl (ar (fun _ => 0)))), (a9, .inl (τ 0, 16, .inl (ar (fun _ => 0)))), (a10, .inl (τ 0, 20, .inl (ar (fun _ => 0)))), (a11, .inl (τ 0, 80, .inl (ar (fun _ => 0)))), (a12, .inl (τ 0, 80, .inl (ar (fun _ => 0)))), (a13, .inl (τ 0, 80, .inl (ar (fun _ => 0)))), (a14, .inl (τ 0, 7, .inl (ar (fun _ => 0)))), (a15, .inl (τ 0, 608, .inl (ar (fun _ => 0))))] H _ := hw
  refine pf_X12_61 (ws' := [(h0, .inr (13, [.int (iI 0), .int (iI 0), .ref a1, .int (iI 4), .int (iI 0), .int (iI 0), .int (iI 0), .int (iI 1), .ref a2, .ref a3, .ref a4, .ref a5, .ref a6, .ref a7, .int (iI 0), .int (iI 0), .int (iI 0), .int (iI 0), .ref a8, .ref a9, .int (iI 0), .ref a10, .ref a11, .ref a12, .int (iI 0), .int (iI 0), .ref a13, .ref a14, .int (iI 0), .ref a15, .int (iI 0), .int (iI 0), .null, .null, .null, .int (iI 0), .null, .null, .null, .int (iI 0), .null, .null, .int (iI 0), .null, .null, .int (iI 0), .null, .null, .null, .int (iI 0), .null, .null, .null])), (a1, .inl (τ 1, 24, .inr (.inl (arL (fun _ => 0))))), (a2, .inl (τ 2, 30, .inl (ar (fun _ => 0)))), (a3, .inl (τ 0, 8, .inl (ar (fun _ => 0)))), (a4, .inl (τ 0, 20, .inl (ar (fun _ => 0)))), (a5, .inl (τ 0, 38, .inl (ar (fun _ => 0)))), (a6, .inl (τ 0, 38, .inl (ar (fun _ => 0)))), (a7, .inl (τ 0, 80, .inl (ar (fun _ => 0)))), (a8, .inl (τ 2, 30, .inl (ar (fun _ => 0)))), (a9, .inl (τ 0, 16, .inl (ar (fun _ => 0)))), (a10, .inl (τ 0, 20, .inl (ar (fun _ => 0)))), (a11, .inl (τ 0, 80, .inl (ar (fun _ => 0)))), (a12, .inl (τ 0, 80, .inl (ar (fun _ => 0)))), (a13, .inl (τ 0, 80, .inl (ar (fun _ => 0)))), (a14, .inl (τ 0, 7, .inl (ar (fun _ => 0)))), (a15, .inl (τ 0, 608, .inl (ar (fun _ => 0))))]) hx hb hC hw hnm 0 rfl (Nat.le_of_ble_eq_true rfl) rfl dX12_init_132 (fun H locs hw => ?_)
  refine lv_aload_n hx hb dX12_init_135 rfl (lv_at hl 0 rfl) ?_
  refine r_bipush hx hb dX12_init_136 (by decide +kernel) ?_
  refine r_newi (N := 30) hx hb hC hA hw ac_int (by decide) (by decide) (by decide) (by decide) rfl rfl dX12_init_138 (fun a16 H hw => ?_)
  have hw : wS D A s.heap [(h0, .inr (13, [.int (iI 0), .int (iI 0), .ref a1, .int (iI 4), .int (iI 0), .int (iI 0), .int (iI 0), .int (iI 1), .ref a2, .ref a3, .ref a4, .ref a5, .ref a6, .ref a7, .int (iI 0), .int (iI 0), .int (iI 0), .int (iI 0), .ref a8, .ref a9, .int (iI 0), .ref a10, .ref a11, .ref a12, .int (iI 0), .int (iI 0), .ref a13, .ref a14, .int (iI 0), .ref a15, .int (iI 0), .int (iI 0), .null, .null, .null, .int (iI 0), .null, .null, .null, .int (iI 0), .null, .null, .int (iI 0), .null, .null, .int (iI 0), .null, .null, .null, .int (iI 0), .null, .null, .null])), (a1, .inl (τ 1, 24, .inr (.inl (arL (fun _ => 0))))), (a2, .inl (τ 2, 30, .inl (ar (fun _ => 0)))), (a3, .inl (τ 0, 8, .inl (ar (fun _ => 0)))), (a4, .inl (τ 0, 20, .inl (ar (fun _ => 0)))), (a5, .inl (τ 0, 38, .inl (ar (fun _ => 0)))), (a6, .inl (τ 0, 38, .inl (ar (fun _ => 0)))), (a7, .inl (τ 0, 80, .inl (ar (fun _ => 0)))), (a8, .inl (τ 2, 30, .inl (ar (fun _ => 0)))), (a9, .inl (τ 0, 16, .inl (ar (fun _ => 0)))), (a10, .inl (τ 0, 20, .inl (ar (fun _ => 0)))), (a11, .inl (τ 0, 80, .inl (ar (fun _ => 0)))), (a12, .inl (τ 0, 80, .inl (ar (fun _ => 0)))), (a13, .inl (τ 0, 80, .inl (ar (fun _ => 0)))), (a14, .inl (τ 0, 7, .inl (ar (fun _ => 0)))), (a15, .inl (τ 0, 608, .inl (ar (fun _ => 0)))), (a16, .inl (τ 0, 30, .inl (ar (fun _ => 0))))] H _ := hw
  refine pf_X12_64 (ws' := [(h0, .inr (13, [.int (iI 0), .int (iI 0), .ref a1, .int (iI 4), .int (iI 0), .int (iI 0), .int (iI 0), .int (iI 1), .ref a2, .ref a3, .ref a4, .ref a5, .ref a6, .ref a7, .int (iI 0), .int (iI 0), .int (iI 0), .int (iI 0), .ref a8, .ref a9, .int (iI 0), .ref a10, .ref a11, .ref a12, .int (iI 0), .int (iI 0), .ref a13, .ref a14, .int (iI 0), .ref a15, .int (iI 0), .int (iI 0), .ref a16, .null, .null, .int (iI 0), .null, .null, .null, .int (iI 0), .null, .null, .int (iI 0), .null, .null, .int (iI 0), .null, .null, .null, .int (iI 0), .null, .null, .null])), (a1, .inl (τ 1, 24, .inr (.inl (arL (fun _ => 0))))), (a2, .inl (τ 2, 30, .inl (ar (fun _ => 0)))), (a3, .inl (τ 0, 8, .inl (ar (fun _ => 0)))), (a4, .inl (τ 0, 20, .inl (ar (fun _ => 0)))), (a5, .inl (τ 0, 38, .inl (ar (fun _ => 0)))), (a6, .inl (τ 0, 38, .inl (ar (fun _ => 0)))), (a7, .inl (τ 0, 80, .inl (ar (fun _ => 0)))), (a8, .inl (τ 2, 30, .inl (ar (fun _ => 0)))), (a9, .inl (τ 0, 16, .inl (ar (fun _ => 0)))), (a10, .inl (τ 0, 20, .inl (ar (fun _ => 0)))), (a11, .inl (τ 0, 80, .inl (ar (fun _ => 0)))), (a12, .inl (τ 0, 80, .inl (ar (fun _ => 0)))), (a13, .inl (τ 0, 80, .inl (ar (fun _ => 0)))), (a14, .inl (τ 0, 7, .inl (ar (fun _ => 0)))), (a15, .inl (τ 0, 608, .inl (ar (fun _ => 0)))), (a16, .inl (τ 0, 30, .inl (ar (fun _ => 0))))]) hx hb hC hw hnm 0 rfl (Nat.le_of_ble_eq_true rfl) rfl dX12_init_140 (fun H locs hw => ?_)
  refine lv_aload_n hx hb dX12_init_143 rfl (lv_at hl 0 rfl) ?_
  refine r_bipush hx hb dX12_init_144 (by decide +kernel) ?_
  refine r_newi (N := 8) hx hb hC hA hw ac_int (by decide) (by decide) (by decide) (by decide) rfl rfl dX12_init_146 (fun a17 H hw => ?_)
  have hw : wS D A s.heap [(h0, .inr (13, [.int (iI 0), .int (iI 0), .ref a1, .int (iI 4), .int (iI 0), .int (iI 0), .int (iI 0), .int (iI 1), .ref a2, .ref a3, .ref a4, .ref a5, .ref a6, .ref a7, .int (iI 0), .int (iI 0), .int (iI 0), .int (iI 0), .ref a8, .ref a9, .int (iI 0), .ref a10, .ref a11, .ref a12, .int (iI 0), .int (iI 0), .ref a13, .ref a14, .int (iI 0), .ref a15, .int (iI 0), .int (iI 0), .ref a16, .null, .null, .int (iI 0), .null, .null, .null, .int (iI 0), .null, .null, .int (iI 0), .null, .null, .int (iI 0), .null, .null, .null, .int (iI 0), .null, .null, .null])), (a1, .inl (τ 1, 24, .inr (.inl (arL (fun _ => 0))))), (a2, .inl (τ 2, 30, .inl (ar (fun _ => 0)))), (a3, .inl (τ 0, 8, .inl (ar (fun _ => 0)))), (a4, .inl (τ 0, 20, .inl (ar (fun _ => 0)))), (a5, .inl (τ 0, 38, .inl (ar (fun _ => 0)))), (a6, .inl (τ 0, 38, .inl (ar (fun _ => 0)))), (a7, .inl (τ 0, 80, .inl (ar (fun _ => 0)))), (a8, .inl (τ 2, 30, .inl (ar (fun _ => 0)))), (a9, .inl (τ 0, 16, .inl (ar (fun _ => 0)))), (a10, .inl (τ 0, 20, .inl (ar (fun _ => 0)))), (a11, .inl (τ 0, 80, .inl (ar (fun _ => 0)))), (a12, .inl (τ 0, 80, .inl (ar (fun _ => 0)))), (a13, .inl (τ 0, 80, .inl (ar (fun _ => 0)))), (a14, .inl (τ 0, 7, .inl (ar (fun _ => 0)))), (a15, .inl (τ 0, 608, .inl (ar (fun _ => 0)))), (a16, .inl (τ 0, 30, .inl (ar (fun _ => 0)))), (a17, .inl (τ 0, 8, .inl (ar (fun _ => 0))))] H _ := hw
  refine pf_X12_67 (ws' := [(h0, .inr (13, [.int (iI 0), .int (iI 0), .ref a1, .int (iI 4), .int (iI 0), .int (iI 0), .int (iI 0), .int (iI 1), .ref a2, .ref a3, .ref a4, .ref a5, .ref a6, .ref a7, .int (iI 0), .int (iI 0), .int (iI 0), .int (iI 0), .ref a8, .ref a9, .int (iI 0), .ref a10, .ref a11, .ref a12, .int (iI 0), .int (iI 0), .ref a13, .ref a14, .int (iI 0), .ref a15, .int (iI 0), .int (iI 0), .ref a16, .ref a17, .null, .int (iI 0), .null, .null, .null, .int (iI 0), .null, .null, .int (iI 0), .null, .null, .int (iI 0), .null, .null, .null, .int (iI 0), .null, .null, .null])), (a1, .inl (τ 1, 24, .inr (.inl (arL (fun _ => 0))))), (a2, .inl (τ 2, 30, .inl (ar (fun _ => 0)))), (a3, .inl (τ 0, 8, .inl (ar (fun _ => 0)))), (a4, .inl (τ 0, 20, .inl (ar (fun _ => 0)))), (a5, .inl (τ 0, 38, .inl (ar (fun _ => 0)))), (a6, .inl (τ 0, 38, .inl (ar (fun _ => 0)))), (a7, .inl (τ 0, 80, .inl (ar (fun _ => 0)))), (a8, .inl (τ 2, 30, .inl (ar (fun _ => 0)))), (a9, .inl (τ 0, 16, .inl (ar (fun _ => 0)))), (a10, .inl (τ 0, 20, .inl (ar (fun _ => 0)))), (a11, .inl (τ 0, 80, .inl (ar (fun _ => 0)))), (a12, .inl (τ 0, 80, .inl (ar (fun _ => 0)))), (a13, .inl (τ 0, 80, .inl (ar (fun _ => 0)))), (a14, .inl (τ 0, 7, .inl (ar (fun _ => 0)))), (a15, .inl (τ 0, 608, .inl (ar (fun _ => 0)))), (a16, .inl (τ 0, 30, .inl (ar (fun _ => 0)))), (a17, .inl (τ 0, 8, .inl (ar (fun _ => 0))))]) hx hb hC hw hnm 0 rfl (Nat.le_of_ble_eq_true rfl) rfl dX12_init_148 (fun H locs hw => ?_)
  refine lv_aload_n hx hb dX12_init_151 rfl (lv_at hl 0 rfl) ?_
  refine r_bipush hx hb dX12_init_152 (by decide +kernel) ?_
  refine r_newi (N := 6) hx hb hC hA hw ac_int (by decide) (by decide) (by decide) (by decide) rfl rfl dX12_init_154 (fun a18 H hw => ?_)
  have hw : wS D A s.heap [(h0, .inr (13, [.int (iI 0), .int (iI 0), .ref a1, .int (iI 4), .int (iI 0), .int (iI 0), .int (iI 0), .int (iI 1), .ref a2, .ref a3, .ref a4, .ref a5, .ref a6, .ref a7, .int (iI 0), .int (iI 0), .int (iI 0), .int (iI 0), .ref a8, .ref a9, .int (iI 0), .ref a10, .ref a11, .ref a12, .int (iI 0), .int (iI 0), .ref a13, .ref a14, .int (iI 0), .ref a15, .int (iI 0), .int (iI 0), .ref a16, .ref a17, .null, .int (iI 0), .null, .null, .null, .int (iI 0), .null, .null, .int (iI 0), .null, .null, .int (iI 0), .null, .null, .null, .int (iI 0), .null, .null, .null])), (a1, .inl (τ 1, 24, .inr (.inl (arL (fun _ => 0))))), (a2, .inl (τ 2, 30, .inl (ar (fun _ => 0)))), (a3, .inl (τ 0, 8, .inl (ar (fun _ => 0)))), (a4, .inl (τ 0, 20, .inl (ar (fun _ => 0)))), (a5, .inl (τ 0, 38, .inl (ar (fun _ => 0)))), (a6, .inl (τ 0, 38, .inl (ar (fun _ => 0)))), (a7, .inl (τ 0, 80, .inl (ar (fun _ => 0)))), (a8, .inl (τ 2, 30, .inl (ar (fun _ => 0)))), (a9, .inl (τ 0, 16, .inl (ar (fun _ => 0)))), (a10, .inl (τ 0, 20, .inl (ar (fun _ => 0)))), (a11, .inl (τ 0, 80, .inl (ar (fun _ => 0)))), (a12, .inl (τ 0, 80, .inl (ar (fun _ => 0)))), (a13, .inl (τ 0, 80, .inl (ar (fun _ => 0)))), (a14, .inl (τ 0, 7, .inl (ar (fun _ => 0)))), (a15, .inl (τ 0, 608, .inl (ar (fun _ => 0)))), (a16, .inl (τ 0, 30, .inl (ar (fun _ => 0)))), (a17, .inl (τ 0, 8, .inl (ar (fun _ => 0)))), (a18, .inl (τ 0, 6, .inl (ar (fun _ => 0))))] H _ := hw
  refine pf_X12_70 (ws' := [(h0, .inr (13, [.int (iI 0), .int (iI 0), .ref a1, .int (iI 4), .int (iI 0), .int (iI 0), .int (iI 0), .int (iI 1), .ref a2, .ref a3, .ref a4, .ref a5, .ref a6, .ref a7, .int (iI 0), .int (iI 0), .int (iI 0), .int (iI 0), .ref a8, .ref a9, .int (iI 0), .ref a10, .ref a11, .ref a12, .int (iI 0), .int (iI 0), .ref a13, .ref a14, .int (iI 0), .ref a15, .int (iI 0), .int (iI 0), .ref a16, .ref a17, .ref a18, .int (iI 0), .null, .null, .null, .int (iI 0), .null, .null, .int (iI 0), .null, .null, .int (iI 0), .null, .null, .null, .int (iI 0), .null, .null, .null])), (a1, .inl (τ 1, 24, .inr (.inl (arL (fun _ => 0))))), (a2, .inl (τ 2, 30, .inl (ar (fun _ => 0)))), (a3, .inl (τ 0, 8, .inl (ar (fun _ => 0)))), (a4, .inl (τ 0, 20, .inl (ar (fun _ => 0)))), (a5, .inl (τ 0, 38, .inl (ar (fun _ => 0)))), (a6, .inl (τ 0, 38, .inl (ar (fun _ => 0)))), (a7, .inl (τ 0, 80, .inl (ar (fun _ => 0)))), (a8, .inl (τ 2, 30, .inl (ar (fun _ => 0)))), (a9, .inl (τ 0, 16, .inl (ar (fun _ => 0)))), (a10, .inl (τ 0, 20, .inl (ar (fun _ => 0)))), (a11, .inl (τ 0, 80, .inl (ar (fun _ => 0)))), (a12, .inl (τ 0, 80, .inl (ar (fun _ => 0)))), (a13, .inl (τ 0, 80, .inl (ar (fun _ => 0)))), (a14, .inl (τ 0, 7, .inl (ar (fun _ => 0)))), (a15, .inl (τ 0, 608, .inl (ar (fun _ => 0)))), (a16, .inl (τ 0, 30, .inl (ar (fun _ => 0)))), (a17, .inl (τ 0, 8, .inl (ar (fun _ => 0)))), (a18, .inl (τ 0, 6, .inl (ar (fun _ => 0))))]) hx hb hC hw hnm 0 rfl (Nat.le_of_ble_eq_true rfl) rfl dX12_init_156 (fun H locs hw => ?_)
  refine lv_aload_n hx hb dX12_init_159 rfl (lv_at hl 0 rfl) ?_
  refine r_bipush hx hb dX12_init_160 (by decide +kernel) ?_
  refine r_newi (N := 60) hx hb hC hA hw ac_int (by decide) (by decide) (by decide) (by decide) rfl rfl dX12_init_162 (fun a19 H hw => ?_)
  have hw : wS D A s.heap [(h0, .inr (13, [.int (iI 0), .int (iI 0), .ref a1, .int (iI 4), .int (iI 0), .int (iI 0), .int (iI 0), .int (iI 1), .ref a2, .ref a3, .ref a4, .ref a5, .ref a6, .ref a7, .int (iI 0), .int (iI 0), .int (iI 0), .int (iI 0), .ref a8, .ref a9, .int (iI 0), .ref a10, .ref a11, .ref a12, .int (iI 0), .int (iI 0), .ref a13, .ref a14, .int (iI 0), .ref a15, .int (iI 0), .int (iI 0), .ref a16, .ref a17, .ref a18, .int (iI 0), .null, .null, .null, .int (iI 0), .null, .null, .int (iI 0), .null, .null, .int (iI 0), .null, .null, .null, .int (iI 0), .null, .null, .null])), (a1, .inl (τ 1, 24, .inr (.inl (arL (fun _ => 0))))), (a2, .inl (τ 2, 30, .inl (ar (fun _ => 0)))), (a3, .inl (τ 0, 8, .inl (ar (fun _ => 0)))), (a4, .inl (τ 0, 20, .inl (ar (fun _ => 0)))), (a5, .inl (τ 0, 38, .inl (ar (fun _ => 0)))), (a6, .inl (τ 0, 38, .inl (ar (fun _ => 0)))), (a7, .inl (τ 0, 80, .inl (ar (fun _ => 0)))), (a8, .inl (τ 2, 30, .inl (ar (fun _ => 0)))), (a9, .inl (τ 0, 16, .inl (ar (fun _ => 0)))), (a10, .inl (τ 0, 20, .inl (ar (fun _ => 0)))), (a11, .inl (τ 0, 80, .inl (ar (fun _ => 0)))), (a12, .inl (τ 0, 80, .inl (ar (fun _ => 0)))), (a13, .inl (τ 0, 80, .inl (ar (fun _ => 0)))), (a14, .inl (τ 0, 7, .inl (ar (fun _ => 0)))), (a15, .inl (τ 0, 608, .inl (ar (fun _ => 0)))), (a16, .inl (τ 0, 30, .inl (ar (fun _ => 0)))), (a17, .inl (τ 0, 8, .inl (ar (fun _ => 0)))), (a18, .inl (τ 0, 6, .inl (ar (fun _ => 0)))), (a19, .inl (τ 0, 60, .inl (ar (fun _ => 0))))] H _ := hw
  refine pf_X12_73 (ws' := [(h0, .inr (13, [.int (iI 0), .int (iI 0), .ref a1, .int (iI 4), .int (iI 0), .int (iI 0), .int (iI 0), .int (iI 1), .ref a2, .ref a3, .ref a4, .ref a5, .ref a6, .ref a7, .int (iI 0), .int (iI 0), .int (iI 0), .int (iI 0), .ref a8, .ref a9, .int (iI 0), .ref a10, .ref a11, .ref a12, .int (iI 0), .int (iI 0), .ref a13, .ref a14, .int (iI 0), .ref a15, .int (iI 0), .int (iI 0), .ref a16, .ref a17, .ref a18, .int (iI 0), .ref a19, .null, .null, .int (iI 0), .null, .null, .int (iI 0), .null, .null, .int (iI 0), .null, .null, .null, .int (iI 0), .null, .null, .null])), (a1, .inl (τ 1, 24, .inr (.inl (arL (fun _ => 0))))), (a2, .inl (τ 2, 30, .inl (ar (fun _ => 0)))), (a3, .inl (τ 0, 8, .inl (ar (fun _ => 0)))), (a4, .inl (τ 0, 20, .inl (ar (fun _ => 0)))), (a5, .inl (τ 0, 38, .inl (ar (fun _ => 0)))), (a6, .inl (τ 0, 38, .inl (ar (fun _ => 0)))), (a7, .inl (τ 0, 80, .inl (ar (fun _ => 0)))), (a8, .inl (τ 2, 30, .inl (ar (fun _ => 0)))), (a9, .inl (τ 0, 16, .inl (ar (fun _ => 0)))), (a10, .inl (τ 0, 20, .inl (ar (fun _ => 0)))), (a11, .inl (τ 0, 80, .inl (ar (fun _ => 0)))), (a12, .inl (τ 0, 80, .inl (ar (fun _ => 0)))), (a13, .inl (τ 0, 80, .inl (ar (fun _ => 0)))), (a14, .inl (τ 0, 7, .inl (ar (fun _ => 0)))), (a15, .inl (τ 0, 608, .inl (ar (fun _ => 0)))), (a16, .inl (τ 0, 30, .inl (ar (fun _ => 0)))), (a17, .inl (τ 0, 8, .inl (ar (fun _ => 0)))), (a18, .inl (τ 0, 6, .inl (ar (fun _ => 0)))), (a19, .inl (τ 0, 60, .inl (ar (fun _ => 0))))]) hx hb hC hw hnm 0 rfl (Nat.le_of_ble_eq_true rfl) rfl dX12_init_164 (fun H locs hw => ?_)
  refine lv_aload_n hx hb dX12_init_167 rfl (lv_at hl 0 rfl) ?_
  refine r_bipush hx hb dX12_init_168 (by decide +kernel) ?_
  refine r_newi (N := 60) hx hb hC hA hw ac_int (by decide) (by decide) (by decide) (by decide) rfl rfl dX12_init_170 (fun a20 H hw => ?_)
  have hw : wS D A s.heap [(h0, .inr (13, [.int (iI 0), .int (iI 0), .ref a1, .int (iI 4), .int (iI 0), .int (iI 0), .int (iI 0), .int (iI 1), .ref a2, .ref a3, .ref a4, .ref a5, .ref a6, .ref a7, .int (iI 0), .int (iI 0), .int (iI 0), .int (iI 0), .ref a8, .ref a9, .int (iI 0), .ref a10, .ref a11, .ref a12, .int (iI 0), .int (iI 0), .ref a13, .ref a14, .int (iI 0), .ref a15, .int (iI 0), .int (iI 0), .ref a16, .ref a17, .ref a18, .int (iI 0), .ref a19, .null, .null, .int (iI 0), .null, .null, .int (iI 0), .null, .null, .int (iI 0), .null, .null, .null, .int (iI 0), .null, .null, .null])), (a1, .inl (τ 1, 24, .inr (.inl (arL (fun _ => 0))))), (a2, .inl (τ 2, 30, .inl (ar (fun _ => 0)))), (a3, .inl (τ 0, 8, .inl (ar (fun _ => 0)))), (a4, .inl (τ 0, 20, .inl (ar (fun _ => 0)))), (a5, .inl (τ 0, 38, .inl (ar (fun _ => 0)))), (a6, .inl (τ 0, 38, .inl (ar (fun _ => 0)))), (a7, .inl (τ 0, 80, .inl (ar (fun _ => 0)))), (a8, .inl (τ 2, 30, .inl (ar (fun _ => 0)))), (a9, .inl (τ 0, 16, .inl (ar (fun _ => 0)))), (a10, .inl (τ 0, 20, .inl (ar (fun _ => 0)))), (a11, .inl (τ 0, 80, .inl (ar (fun _ => 0)))), (a12, .inl (τ 0, 80, .inl (ar (fun _ => 0)))), (a13, .inl (τ 0, 80, .inl (ar (fun _ => 0)))), (a14, .inl (τ 0, 7, .inl (ar (fun _ => 0)))), (a15, .inl (τ 0, 608, .inl (ar (fun _ => 0)))), (a16, .inl (τ 0, 30, .inl (ar (fun _ => 0)))), (a17, .inl (τ 0, 8, .inl (ar (fun _ => 0)))), (a18, .inl (τ 0, 6, .inl (ar (fun _ => 0)))), (a19, .inl (τ 0, 60, .inl (ar (fun _ => 0)))), (a20, .inl (τ 0, 60, .inl (ar (fun _ => 0))))] H _ := hw
  refine pf_X12_76 (ws' := [(h0, .inr (13, [.int (iI 0), .int (iI 0), .ref a1, .int (iI 4), .int (iI 0), .int (iI 0), .int (iI 0), .int (iI 1), .ref a2, .ref a3, .ref a4, .ref a5, .ref a6, .ref a7, .int (iI 0), .int (iI 0), .int (iI 0), .int (iI 0), .ref a8, .ref a9, .int (iI 0), .ref a10, .ref a11, .ref a12, .int (iI 0), .int (iI 0), .ref a13, .ref a14, .int (iI 0), .ref a15, .int (iI 0), .int (iI 0), .ref a16, .ref a17, .ref a18, .int (iI 0), .ref a19, .ref a20, .null, .int (iI 0), .null, .null, .int (iI 0), .null, .null, .int (iI 0), .null, .null, .null, .int (iI 0), .null, .null, .null])), (a1, .inl (τ 1, 24, .inr (.inl (arL (fun _ => 0))))), (a2, .inl (τ 2, 30, .inl (ar (fun _ => 0)))), (a3, .inl (τ 0, 8, .inl (ar (fun _ => 0)))), (a4, .inl (τ 0, 20, .inl (ar (fun _ => 0)))), (a5, .inl (τ 0, 38, .inl (ar (fun _ => 0)))), (a6, .inl (τ 0, 38, .inl (ar (fun _ => 0)))), (a7, .inl (τ 0, 80, .inl (ar (fun _ => 0)))), (a8, .inl (τ 2, 30, .inl (ar (fun _ => 0)))), (a9, .inl (τ 0, 16, .inl (ar (fun _ => 0)))), (a10, .inl (τ 0, 20, .inl (ar (fun _ => 0)))), (a11, .inl (τ 0, 80, .inl (ar (fun _ => 0)))), (a12, .inl (τ 0, 80, .inl (ar (fun _ => 0)))), (a13, .inl (τ 0, 80, .inl (ar (fun _ => 0)))), (a14, .inl (τ 0, 7, .inl (ar (fun _ => 0)))), (a15, .inl (τ 0, 608, .inl (ar (fun _ => 0)))), (a16, .inl (τ 0, 30, .inl (ar (fun _ => 0)))), (a17, .inl (τ 0, 8, .inl (ar (fun _ => 0)))), (a18, .inl (τ 0, 6, .inl (ar (fun _ => 0)))), (a19, .inl (τ 0, 60, .inl (ar (fun _ => 0)))), (a20, .inl (τ 0, 60, .inl (ar (fun _ => 0))))]) hx hb hC hw hnm 0 rfl (Nat.le_of_ble_eq_true rfl) rfl dX12_init_172 (fun H locs hw => ?_)
  refine lv_aload_n hx hb dX12_init_175 rfl (lv_at hl 0 rfl) ?_
  refine r_bipush hx hb dX12_init_176 (by decide +kernel) ?_
  refine r_newi (N := 60) hx hb hC hA hw ac_int (by decide) (by decide) (by decide) (by decide) rfl rfl dX12_init_178 (fun a21 H hw => ?_)
  have hw : wS D A s.heap [(h0, .inr (13, [.int (iI 0), .int (iI 0), .ref a1, .int (iI 4), .int (iI 0), .int (iI 0), .int (iI 0), .int (iI 1), .ref a2, .ref a3, .ref a4, .ref a5, .ref a6, .ref a7, .int (iI 0), .int (iI 0), .int (iI 0), .int (iI 0), .ref a8, .ref a9, .int (iI 0), .ref a10, .ref a11, .ref a12, .int (iI 0), .int (iI 0), .ref a13, .ref a14, .int (iI 0), .ref a15, .int (iI 0), .int (iI 0), .ref a16, .ref a17, .ref a18, .int (iI 0), .ref a19, .ref a20, .null, .int (iI 0), .null, .null, .int (iI 0), .null, .null, .int (iI 0), .null, .null, .null, .int (iI 0), .null, .null, .null])), (a1, .inl (τ 1, 24, .inr (.inl (arL (fun _ => 0))))), (a2, .inl (τ 2, 30, .inl (ar (fun _ => 0)))), (a3, .inl (τ 0, 8, .inl (ar (fun _ => 0)))), (a4, .inl (τ 0, 20, .inl (ar (fun _ => 0)))), (a5, .inl (τ 0, 38, .inl (ar (fun _ => 0)))), (a6, .inl (τ 0, 38, .inl (ar (fun _ => 0)))), (a7, .inl (τ 0, 80, .inl (ar (fun _ => 0)))), (a8, .inl (τ 2, 30, .inl (ar (fun _ => 0)))), (a9, .inl (τ 0, 16, .inl (ar (fun _ => 0)))), (a10, .inl (τ 0, 20, .inl (ar (fun _ => 0)))), (a11, .inl (τ 0, 80, .inl (ar (fun _ => 0)))), (a12, .inl (τ 0, 80, .inl (ar (fun _ => 0)))), (a13, .inl (τ 0, 80, .inl (ar (fun _ => 0)))), (a14, .inl (τ 0, 7, .inl (ar (fun _ => 0)))), (a15, .inl (τ 0, 608, .inl (ar (fun _ => 0)))), (a16, .inl (τ 0, 30, .inl (ar (fun _ => 0)))), (a17, .inl (τ 0, 8, .inl (ar (fun _ => 0)))), (a18, .inl (τ 0, 6, .inl (ar (fun _ => 0)))), (a19, .inl (τ 0, 60, .inl (ar (fun _ => 0)))), (a20, .inl (τ 0, 60, .inl (ar (fun _ => 0)))), (a21, .inl (τ 0, 60, .inl (ar (fun _ => 0))))] H _ := hw
  refine pf_X12_79 (ws' := [(h0, .inr (13, [.int (iI 0), .int (iI 0), .ref a1, .int (iI 4), .int (iI 0), .int (iI 0), .int (iI 0), .int (iI 1), .ref a2, .ref a3, .ref a4, .ref a5, .ref a6, .ref a7, .int (iI 0), .int (iI 0), .int (iI 0), .int (iI 0), .ref a8, .ref a9, .int (iI 0), .ref a10, .ref a11, .ref a12, .int (iI 0), .int (iI 0), .ref a13, .ref a14, .int (iI 0), .ref a15, .int (iI 0), .int (iI 0), .ref a16, .ref a17, .ref a18, .int (iI 0), .ref a19, .ref a20, .ref a21, .int (iI 0), .null, .null, .int (iI 0), .null, .null, .int (iI 0), .null, .null, .null, .int (iI 0), .null, .null, .null])), (a1, .inl (τ 1, 24, .inr (.inl (arL (fun _ => 0))))), (a2, .inl (τ 2, 30, .inl (ar (fun _ => 0)))), (a3, .inl (τ 0, 8, .inl (ar (fun _ => 0)))), (a4, .inl (τ 0, 20, .inl (ar (fun _ => 0)))), (a5, .inl (τ 0, 38, .inl (ar (fun _ => 0)))), (a6, .inl (τ 0, 38, .inl (ar (fun _ => 0)))), (a7, .inl (τ 0, 80, .inl (ar (fun _ => 0)))), (a8, .inl (τ 2, 30, .inl (ar (fun _ => 0)))), (a9, .inl (τ 0, 16, .inl (ar (fun _ => 0)))), (a10, .inl (τ 0, 20, .inl (ar (fun _ => 0)))), (a11, .inl (τ 0, 80, .inl (ar (fun _ => 0)))), (a12, .inl (τ 0, 80, .inl (ar (fun _ => 0)))), (a13, .inl (τ 0, 80, .inl (ar (fun _ => 0)))), (a14, .inl (τ 0, 7, .inl (ar (fun _ => 0)))), (a15, .inl (τ 0, 608, .inl (ar (fun _ => 0)))), (a16, .inl (τ 0, 30, .inl (ar (fun _ => 0)))), (a17, .inl (τ 0, 8, .inl (ar (fun _ => 0)))), (a18, .inl (τ 0, 6, .inl (ar (fun _ => 0)))), (a19, .inl (τ 0, 60, .inl (ar (fun _ => 0)))), (a20, .inl (τ 0, 60, .inl (ar (fun _ => 0)))), (a21, .inl (τ 0, 60, .inl (ar (fun _ => 0))))]) hx hb hC hw hnm 0 rfl (Nat.le_of_ble_eq_true rfl) rfl dX12_init_180 (fun H locs hw => ?_)
  refine lv_aload_n hx hb dX12_init_183 rfl (lv_at hl 0 rfl) ?_
  refine r_bipush hx hb dX12_init_184 (by decide +kernel) ?_
  refine r_newi (N := 6) hx hb hC hA hw ac_int (by decide) (by decide) (by decide) (by decide) rfl rfl dX12_init_186 (fun a22 H hw => ?_)
  have hw : wS D A s.heap [(h0, .inr (13, [.int (iI 0), .int (iI 0), .ref a1, .int (iI 4), .int (iI 0), .int (iI 0), .int (iI 0), .int (iI 1), .ref a2, .ref a3, .ref a4, .ref a5, .ref a6, .ref a7, .int (iI 0), .int (iI 0), .int (iI 0), .int (iI 0), .ref a8, .ref a9, .int (iI 0), .ref a10, .ref a11, .ref a12, .int (iI 0), .int (iI 0), .ref a13, .ref a14, .int (iI 0), .ref a15, .int (iI 0), .int (iI 0), .ref a16, .ref a17, .ref a18, .int (iI 0), .ref a19, .ref a20, .ref a21, .int (iI 0), .null, .null, .int (iI 0), .null, .null, .int (iI 0), .null, .null, .null, .int (iI 0), .null, .null, .null])), (a1, .inl (τ 1, 24, .inr (.inl (arL (fun _ => 0))))), (a2, .inl (τ 2, 30, .inl (ar (fun _ => 0)))), (a3, .inl (τ 0, 8, .inl (ar (fun _ => 0)))), (a4, .inl (τ 0, 20, .inl (ar (fun _ => 0)))), (a5, .inl (τ 0, 38, .inl (ar (fun _ => 0)))), (a6, .inl (τ 0, 38, .inl (ar (fun _ => 0)))), (a7, .inl (τ 0, 80, .inl (ar (fun _ => 0)))), (a8, .inl (τ 2, 30, .inl (ar (fun _ => 0)))), (a9, .inl (τ 0, 16, .inl (ar (fun _ => 0)))), (a10, .inl (τ 0, 20, .inl (ar (fun _ => 0)))), (a11, .inl (τ 0, 80, .inl (ar (fun _ => 0)))), (a12, .inl (τ 0, 80, .inl (ar (fun _ => 0)))), (a13, .inl (τ 0, 80, .inl (ar (fun _ => 0)))), (a14, .inl (τ 0, 7, .inl (ar (fun _ => 0)))), (a15, .inl (τ 0, 608, .inl (ar (fun _ => 0)))), (a16, .inl (τ 0, 30, .inl (ar (fun _ => 0)))), (a17, .inl (τ 0, 8, .inl (ar (fun _ => 0)))), (a18, .inl (τ 0, 6, .inl (ar (fun _ => 0)))), (a19, .inl (τ 0, 60, .inl (ar (fun _ => 0)))), (a20, .inl (τ 0, 60, .inl (ar (fun _ => 0)))), (a21, .inl (τ 0, 60, .inl (ar (fun _ => 0)))), (a22, .inl (τ 0, 6, .inl (ar (fun _ => 0))))] H _ := hw
  refine pf_X12_82 (ws' := [(h0, .inr (13, [.int (iI 0), .int (iI 0), .ref a1, .int (iI 4), .int (iI 0), .int (iI 0), .int (iI 0), .int (iI 1), .ref a2, .ref a3, .ref a4, .ref a5, .ref a6, .ref a7, .int (iI 0), .int (iI 0), .int (iI 0), .int (iI 0), .ref a8, .ref a9, .int (iI 0), .ref a10, .ref a11, .ref a12, .int (iI 0), .int (iI 0), .ref a13, .ref a14, .int (iI 0), .ref a15, .int (iI 0), .int (iI 0), .ref a16, .ref a17, .ref a18, .int (iI 0), .ref a19, .ref a20, .ref a21, .int (iI 0), .ref a22, .null, .int (iI 0), .null, .null, .int (iI 0), .null, .null, .null, .int (iI 0), .null, .null, .null])), (a1, .inl (τ 1, 24, .inr (.inl (arL (fun _ => 0))))), (a2, .inl (τ 2, 30, .inl (ar (fun _ => 0)))), (a3, .inl (τ 0, 8, .inl (ar (fun _ => 0)))), (a4, .inl (τ 0, 20, .inl (ar (fun _ => 0)))), (a5, .inl (τ 0, 38, .inl (ar (fun _ => 0)))), (a6, .inl (τ 0, 38, .inl (ar (fun _ => 0)))), (a7, .inl (τ 0, 80, .inl (ar (fun _ => 0)))), (a8, .inl (τ 2, 30, .inl (ar (fun _ => 0)))), (a9, .inl (τ 0, 16, .inl (ar (fun _ => 0)))), (a10, .inl (τ 0, 20, .inl (ar (fun _ => 0)))), (a11, .inl (τ 0, 80, .inl (ar (fun _ => 0)))), (a12, .inl (τ 0, 80, .inl (ar (fun _ => 0)))), (a13, .inl (τ 0, 80, .inl (ar (fun _ => 0)))), (a14, .inl (τ 0, 7, .inl (ar (fun _ => 0)))), (a15, .inl (τ 0, 608, .inl (ar (fun _ => 0)))), (a16, .inl (τ 0, 30, .inl (ar (fun _ => 0)))), (a17, .inl (τ 0, 8, .inl (ar (fun _ => 0)))), (a18, .inl (τ 0, 6, .inl (ar (fun _ => 0)))), (a19, .inl (τ 0, 60, .inl (ar (fun _ => 0)))), (a20, .inl (τ 0, 60, .inl (ar (fun _ => 0)))), (a21, .inl (τ 0, 60, .inl (ar (fun _ => 0)))), (a22, .inl (τ 0, 6, .inl (ar (fun _ => 0))))]) hx hb hC hw hnm 0 rfl (Nat.le_of_ble_eq_true rfl) rfl dX12_init_188 (fun H locs hw => ?_)
  refine lv_aload_n hx hb dX12_init_191 rfl (lv_at hl 0 rfl) ?_
  refine r_bipush hx hb dX12_init_192 (by decide +kernel) ?_
  refine r_newi (N := 6) hx hb hC hA hw ac_int (by decide) (by decide) (by decide) (by decide) rfl rfl dX12_init_194 (fun a23 H hw => ?_)
  have hw : wS D A s.heap [(h0, .inr (13, [.int (iI 0), .int (iI 0), .ref a1, .int (iI 4), .int (iI 0), .int (iI 0), .int (iI 0), .int (iI 1), .ref a2, .ref a3, .ref a4, .ref a5, .ref a6, .ref a7, .int (iI 0), .int (iI 0), .int (iI 0), .int (iI 0), .ref a8, .ref a9, .int (iI 0), .ref a10, .ref a11, .ref a12, .int (iI 0), .int (iI 0), .ref a13, .ref a14, .int (iI 0), .ref a15, .int (iI 0), .int (iI 0), .ref a16, .ref a17, .ref a18, .int (iI 0), .ref a19, .ref a20, .ref a21, .int (iI 0), .ref a22, .null, .int (iI 0), .null, .null, .int (iI 0), .null, .null, .null, .int (iI 0), .null, .null, .null])), (a1, .inl (τ 1, 24, .inr (.inl (arL (fun _ => 0))))), (a2, .inl (τ 2, 30, .inl (ar (fun _ => 0)))), (a3, .inl (τ 0, 8, .inl (ar (fun _ => 0)))), (a4, .inl (τ 0, 20, .inl (ar (fun _ => 0)))), (a5, .inl (τ 0, 38, .inl (ar (fun _ => 0)))), (a6, .inl (τ 0, 38, .inl (ar (fun _ => 0)))), (a7, .inl (τ 0, 80, .inl (ar (fun _ => 0)))), (a8, .inl (τ 2, 30, .inl (ar (fun _ => 0)))), (a9, .inl (τ 0, 16, .inl (ar (fun _ => 0)))), (a10, .inl (τ 0, 20, .inl (ar (fun _ => 0)))), (a11, .inl (τ 0, 80, .inl (ar (fun _ => 0)))), (a12, .inl (τ 0, 80, .inl (ar (fun _ => 0)))), (a13, .inl (τ 0, 80, .inl (ar (fun _ => 0)))), (a14, .inl (τ 0, 7, .inl (ar (fun _ => 0)))), (a15, .inl (τ 0, 608, .inl (ar (fun _ => 0)))), (a16, .inl (τ 0, 30, .inl (ar (fun _ => 0)))), (a17, .inl (τ 0, 8, .inl (ar (fun _ => 0)))), (a18, .inl (τ 0, 6, .inl (ar (fun _ => 0)))), (a19, .inl (τ 0, 60, .inl (ar (fun _ => 0)))), (a20, .inl (τ 0, 60, .inl (ar (fun _ => 0)))), (a21, .inl (τ 0, 60, .inl (ar (fun _ => 0)))), (a22, .inl (τ 0, 6, .inl (ar (fun _ => 0)))), (a23, .inl (τ 0, 6, .inl (ar (fun _ => 0))))] H _ := hw
  refine pf_X12_85 (ws' := [(h0, .inr (13, [.int (iI 0), .int (iI 0), .ref a1, .int (iI 4), .int (iI 0), .int (iI 0), .int (iI 0), .int (iI 1), .ref a2, .ref a3, .ref a4, .ref a5, .ref a6, .ref a7, .int (iI 0), .int (iI 0), .int (iI 0), .int (iI 0), .ref a8, .ref a9, .int (iI 0), .ref a10, .ref a11, .ref a12, .int (iI 0), .int (iI 0), .ref a13, .ref a14, .int (iI 0), .ref a15, .int (iI 0), .int (iI 0), .ref a16, .ref a17, .ref a18, .int (iI 0), .ref a19, .ref a20, .ref a21, .int (iI 0), .ref a22, .ref a23, .int (iI 0), .null, .null, .int (iI 0), .null, .null, .null, .int (iI 0), .null, .null, .null])), (a1, .inl (τ 1, 24, .inr (.inl (arL (fun _ => 0))))), (a2, .inl (τ 2, 30, .inl (ar (fun _ => 0)))), (a3, .inl (τ 0, 8, .inl (ar (fun _ => 0)))), (a4, .inl (τ 0, 20, .inl (ar (fun _ => 0)))), (a5, .inl (τ 0, 38, .inl (ar (fun _ => 0)))), (a6, .inl (τ 0, 38, .inl (ar (fun _ => 0)))), (a7, .inl (τ 0, 80, .inl (ar (fun _ => 0)))), (a8, .inl (τ 2, 30, .inl (ar (fun _ => 0)))), (a9, .inl (τ 0, 16, .inl (ar (fun _ => 0)))), (a10, .inl (τ 0, 20, .inl (ar (fun _ => 0)))), (a11, .inl (τ 0, 80, .inl (ar (fun _ => 0)))), (a12, .inl (τ 0, 80, .inl (ar (fun _ => 0)))), (a13, .inl (τ 0, 80, .inl (ar (fun _ => 0)))), (a14, .inl (τ 0, 7, .inl (ar (fun _ => 0)))), (a15, .inl (τ 0, 608, .inl (ar (fun _ => 0)))), (a16, .inl (τ 0, 30, .inl (ar (fun _ => 0)))), (a17, .inl (τ 0, 8, .inl (ar (fun _ => 0)))), (a18, .inl (τ 0, 6, .inl (ar (fun _ => 0)))), (a19, .inl (τ 0, 60, .inl (ar (fun _ => 0)))), (a20, .inl (τ 0, 60, .inl (ar (fun _ => 0)))), (a21, .inl (τ 0, 60, .inl (ar (fun _ => 0)))), (a22, .inl (τ 0, 6, .inl (ar (fun _ => 0)))), (a23, .inl (τ 0, 6, .inl (ar (fun _ => 0))))]) hx hb hC hw hnm 0 rfl (Nat.le_of_ble_eq_true rfl) rfl dX12_init_196 (fun H locs hw => ?_)
  refine lv_aload_n hx hb dX12_init_199 rfl (lv_at hl 0 rfl) ?_
  refine r_bipush hx hb dX12_init_200 (by decide +kernel) ?_
  refine r_newi (N := 8) hx hb hC hA hw ac_int (by decide) (by decide) (by decide) (by decide) rfl rfl dX12_init_202 (fun a24 H hw => ?_)
  have hw : wS D A s.heap [(h0, .inr (13, [.int (iI 0), .int (iI 0), .ref a1, .int (iI 4), .int (iI 0), .int (iI 0), .int (iI 0), .int (iI 1), .ref a2, .ref a3, .ref a4, .ref a5, .ref a6, .ref a7, .int (iI 0), .int (iI 0), .int (iI 0), .int (iI 0), .ref a8, .ref a9, .int (iI 0), .ref a10, .ref a11, .ref a12, .int (iI 0), .int (iI 0), .ref a13, .ref a14, .int (iI 0), .ref a15, .int (iI 0), .int (iI 0), .ref a16, .ref a17, .ref a18, .int (iI 0), .ref a19, .ref a20, .ref a21, .int (iI 0), .ref a22, .ref a23, .int (iI 0), .null, .null, .int (iI 0), .null, .null, .null, .int (iI 0), .null, .null, .null])), (a1, .inl (τ 1, 24, .inr (.inl (arL (fun _ => 0))))), (a2, .inl (τ 2, 30, .inl (ar (fun _ => 0)))), (a3, .inl (τ 0, 8, .inl (ar (fun _ => 0)))), (a4, .inl (τ 0, 20, .inl (ar (fun _ => 0)))), (a5, .inl (τ 0, 38, .inl (ar (fun _ => 0)))), (a6, .inl (τ 0, 38, .inl (ar (fun _ => 0)))), (a7, .inl (τ 0, 80, .inl (ar (fun _ => 0)))), (a8, .inl (τ 2, 30, .inl (ar (fun _ => 0)))), (a9, .inl (τ 0, 16, .inl (ar (fun _ => 0)))), (a10, .inl (τ 0, 20, .inl (ar (fun _ => 0)))), (a11, .inl (τ 0, 80, .inl (ar (fun _ => 0)))), (a12, .inl (τ 0, 80, .inl (ar (fun _ => 0)))), (a13, .inl (τ 0, 80, .inl (ar (fun _ => 0)))), (a14, .inl (τ 0, 7, .inl (ar (fun _ => 0)))), (a15, .inl (τ 0, 608, .inl (ar (fun _ => 0)))), (a16, .inl (τ 0, 30, .inl (ar (fun _ => 0)))), (a17, .inl (τ 0, 8, .inl (ar (fun _ => 0)))), (a18, .inl (τ 0, 6, .inl (ar (fun _ => 0)))), (a19, .inl (τ 0, 60, .inl (ar (fun _ => 0)))), (a20, .inl (τ 0, 60, .inl (ar (fun _ => 0)))), (a21, .inl (τ 0, 60, .inl (ar (fun _ => 0)))), (a22, .inl (τ 0, 6, .inl (ar (fun _ => 0)))), (a23, .inl (τ 0, 6, .inl (ar (fun _ => 0)))), (a24, .inl (τ 0, 8, .inl (ar (fun _ => 0))))] H _ := hw
  refine pf_X12_88 (ws' := [(h0, .inr (13, [.int (iI 0), .int (iI 0), .ref a1, .int (iI 4), .int (iI 0), .int (iI 0), .int (iI 0), .int (iI 1), .ref a2, .ref a3, .ref a4, .ref a5, .ref a6, .ref a7, .int (iI 0), .int (iI 0), .int (iI 0), .int (iI 0), .ref a8, .ref a9, .int (iI 0), .ref a10, .ref a11, .ref a12, .int (iI 0), .int (iI 0), .ref a13, .ref a14, .int (iI 0), .ref a15, .int (iI 0), .int (iI 0), .ref a16, .ref a17, .ref a18, .int (iI 0), .ref a19, .ref a20, .ref a21, .int (iI 0), .ref a22, .ref a23, .int (iI 0), .ref a24, .null, .int (iI 0), .null, .null, .null, .int (iI 0), .null, .null, .null])), (a1, .inl (τ 1, 24, .inr (.inl (arL (fun _ => 0))))), (a2, .inl (τ 2, 30, .inl (ar (fun _ => 0)))), (a3, .inl (τ 0, 8, .inl (ar (fun _ => 0)))), (a4, .inl (τ 0, 20, .inl (ar (fun _ => 0)))), (a5, .inl (τ 0, 38, .inl (ar (fun _ => 0)))), (a6, .inl (τ 0, 38, .inl (ar (fun _ => 0)))), (a7, .inl (τ 0, 80, .inl (ar (fun _ => 0)))), (a8, .inl (τ 2, 30, .inl (ar (fun _ => 0)))), (a9, .inl (τ 0, 16, .inl (ar (fun _ => 0)))), (a10, .inl (τ 0, 20, .inl (ar (fun _ => 0)))), (a11, .inl (τ 0, 80, .inl (ar (fun _ => 0)))), (a12, .inl (τ 0, 80, .inl (ar (fun _ => 0)))), (a13, .inl (τ 0, 80, .inl (ar (fun _ => 0)))), (a14, .inl (τ 0, 7, .inl (ar (fun _ => 0)))), (a15, .inl (τ 0, 608, .inl (ar (fun _ => 0)))), (a16, .inl (τ 0, 30, .inl (ar (fun _ => 0)))), (a17, .inl (τ 0, 8, .inl (ar (fun _ => 0)))), (a18, .inl (τ 0, 6, .inl (ar (fun _ => 0)))), (a19, .inl (τ 0, 60, .inl (ar (fun _ => 0)))), (a20, .inl (τ 0, 60, .inl (ar (fun _ => 0)))), (a21, .inl (τ 0, 60, .inl (ar (fun _ => 0)))), (a22, .inl (τ 0, 6, .inl (ar (fun _ => 0)))), (a23, .inl (τ 0, 6, .inl (ar (fun _ => 0)))), (a24, .inl (τ 0, 8, .inl (ar (fun _ => 0))))]) hx hb hC hw hnm 0 rfl (Nat.le_of_ble_eq_true rfl) rfl dX12_init_204 (fun H locs hw => ?_)
  refine lv_aload_n hx hb dX12_init_207 rfl (lv_at hl 0 rfl) ?_
  refine r_bipush hx hb dX12_init_208 (by decide +kernel) ?_
  refine r_newi (N := 8) hx hb hC hA hw ac_int (by decide) (by decide) (by decide) (by decide) rfl rfl dX12_init_210 (fun a25 H hw => ?_)
  have hw : wS D A s.heap [(h0, .inr (13, [.int (iI 0), .int (iI 0), .ref a1, .int (iI 4), .int (iI 0), .int (iI 0), .int (iI 0), .int (iI 1), .ref a2, .ref a3, .ref a4, .ref a5, .ref a6, .ref a7, .int (iI 0), .int (iI 0), .int (iI 0), .int (iI 0), .ref a8, .ref a9, .int (iI 0), .ref a10, .ref a11, .ref a12, .int (iI 0), .int (iI 0), .ref a13, .ref a14, .int (iI 0), .ref a15, .int (iI 0), .int (iI 0), .ref a16, .ref a17, .ref a18, .int (iI 0), .ref a19, .ref a20, .ref a21, .int (iI 0), .ref a22, .ref a23, .int (iI 0), .ref a24, .null, .int (iI 0), .null, .null, .null, .int (iI 0), .null, .null, .null])), (a1, .inl (τ 1, 24, .inr (.inl (arL (fun _ => 0))))), (a2, .inl (τ 2, 30, .inl (ar (fun _ => 0)))), (a3, .inl (τ 0, 8, .inl (ar (fun _ => 0)))), (a4, .inl (τ 0, 20, .inl (ar (fun _ => 0)))), (a5, .inl (τ 0, 38, .inl (ar (fun _ => 0)))), (a6, .inl (τ 0, 38, .inl (ar (fun _ => 0)))), (a7, .inl (τ 0, 80, .inl (ar (fun _ => 0)))), (a8, .inl (τ 2, 30, .inl (ar (fun _ => 0)))), (a9, .inl (τ 0, 16, .inl (ar (fun _ => 0)))), (a10, .inl (τ 0, 20, .inl (ar (fun _ => 0)))), (a11, .inl (τ 0, 80, .inl (ar (fun _ => 0)))), (a12, .inl (τ 0, 80, .inl (ar (fun _ => 0)))), (a13, .inl (τ 0, 80, .inl (ar (fun _ => 0)))), (a14, .inl (τ 0, 7, .inl (ar (fun _ => 0)))), (a15, .inl (τ 0, 608, .inl (ar (fun _ => 0)))), (a16, .inl (τ 0, 30, .inl (ar (fun _ => 0)))), (a17, .inl (τ 0, 8, .inl (ar (fun _ => 0)))), (a18, .inl (τ 0, 6, .inl (ar (fun _ => 0)))), (a19, .inl (τ 0, 60, .inl (ar (fun _ => 0)))), (a20, .inl (τ 0, 60, .inl (ar (fun _ => 0)))), (a21, .inl (τ 0, 60, .inl (ar (fun _ => 0)))), (a22, .inl (τ 0, 6, .inl (ar (fun _ => 0)))), (a23, .inl (τ 0, 6, .inl (ar (fun _ => 0)))), (a24, .inl (τ 0, 8, .inl (ar (fun _ => 0)))), (a25, .inl (τ 0, 8, .inl (ar (fun _ => 0))))] H _ := hw
  refine pf_X12_91 (ws' := [(h0, .inr (13, [.int (iI 0), .int (iI 0), .ref a1, .int (iI 4), .int (iI 0), .int (iI 0), .int (iI 0), .int (iI 1), .ref a2, .ref a3, .ref a4, .ref a5, .ref a6, .ref a7, .int (iI 0), .int (iI 0), .int (iI 0), .int (iI 0), .ref a8, .ref a9, .int (iI 0), .ref a10, .ref a11, .ref a12, .int (iI 0), .int (iI 0), .ref a13, .ref a14, .int (iI 0), .ref a15, .int (iI 0), .int (iI 0), .ref a16, .ref a17, .ref a18, .int (iI 0), .ref a19, .ref a20, .ref a21, .int (iI 0), .ref a22, .ref a23, .int (iI 0), .ref a24, .ref a25, .int (iI 0), .null, .null, .null, .int (iI 0), .null, .null, .null])), (a1, .inl (τ 1, 24, .inr (.inl (arL (fun _ => 0))))), (a2, .inl (τ 2, 30, .inl (ar (fun _ => 0)))), (a3, .inl (τ 0, 8, .inl (ar (fun _ => 0)))), (a4, .inl (τ 0, 20, .inl (ar (fun _ => 0)))), (a5, .inl (τ 0, 38, .inl (ar (fun _ => 0)))), (a6, .inl (τ 0, 38, .inl (ar (fun _ => 0)))), (a7, .inl (τ 0, 80, .inl (ar (fun _ => 0)))), (a8, .inl (τ 2, 30, .inl (ar (fun _ => 0)))), (a9, .inl (τ 0, 16, .inl (ar (fun _ => 0)))), (a10, .inl (τ 0, 20, .inl (ar (fun _ => 0)))), (a11, .inl (τ 0, 80, .inl (ar (fun _ => 0)))), (a12, .inl (τ 0, 80, .inl (ar (fun _ => 0)))), (a13, .inl (τ 0, 80, .inl (ar (fun _ => 0)))), (a14, .inl (τ 0, 7, .inl (ar (fun _ => 0)))), (a15, .inl (τ 0, 608, .inl (ar (fun _ => 0)))), (a16, .inl (τ 0, 30, .inl (ar (fun _ => 0)))), (a17, .inl (τ 0, 8, .inl (ar (fun _ => 0)))), (a18, .inl (τ 0, 6, .inl (ar (fun _ => 0)))), (a19, .inl (τ 0, 60, .inl (ar (fun _ => 0)))), (a20, .inl (τ 0, 60, .inl (ar (fun _ => 0)))), (a21, .inl (τ 0, 60, .inl (ar (fun _ => 0)))), (a22, .inl (τ 0, 6, .inl (ar (fun _ => 0)))), (a23, .inl (τ 0, 6, .inl (ar (fun _ => 0)))), (a24, .inl (τ 0, 8, .inl (ar (fun _ => 0)))), (a25, .inl (τ 0, 8, .inl (ar (fun _ => 0))))]) hx hb hC hw hnm 0 rfl (Nat.le_of_ble_eq_true rfl) rfl dX12_init_212 (fun H locs hw => ?_)
  refine lv_aload_n hx hb dX12_init_215 rfl (lv_at hl 0 rfl) ?_
  refine r_bipush hx hb dX12_init_216 (by decide +kernel) ?_
  refine r_newi (N := 8) hx hb hC hA hw ac_int (by decide) (by decide) (by decide) (by decide) rfl rfl dX12_init_218 (fun a26 H hw => ?_)
  have hw : wS D A s.heap [(h0, .inr (13, [.int (iI 0), .int (iI 0), .ref a1, .int (iI 4), .int (iI 0), .int (iI 0), .int (iI 0), .int (iI 1), .ref a2, .ref a3, .ref a4, .ref a5, .ref a6, .ref a7, .int (iI 0), .int (iI 0), .int (iI 0), .int (iI 0), .ref a8, .ref a9, .int (iI 0), .ref a10, .ref a11, .ref a12, .int (iI 0), .int (iI 0), .ref a13, .ref a14, .int (iI 0), .ref a15, .int (iI 0), .int (iI 0), .ref a16, .ref a17, .ref a18, .int (iI 0), .ref a19, .ref a20, .ref a21, .int (iI 0), .ref a22, .ref a23, .int (iI 0), .ref a24, .ref a25, .int (iI 0), .null, .null, .null, .int (iI 0), .null, .null, .null])), (a1, .inl (τ 1, 24, .inr (.inl (arL (fun _ => 0))))), (a2, .inl (τ 2, 30, .inl (ar (fun _ => 0)))), (a3, .inl (τ 0, 8, .inl (ar (fun _ => 0)))), (a4, .inl (τ 0, 20, .inl (ar (fun _ => 0)))), (a5, .inl (τ 0, 38, .inl (ar (fun _ => 0)))), (a6, .inl (τ 0, 38, .inl (ar (fun _ => 0)))), (a7, .inl (τ 0, 80, .inl (ar (fun _ => 0)))), (a8, .inl (τ 2, 30, .inl (ar (fun _ => 0)))), (a9, .inl (τ 0, 16, .inl (ar (fun _ => 0)))), (a10, .inl (τ 0, 20, .inl (ar (fun _ => 0)))), (a11, .inl (τ 0, 80, .inl (ar (fun _ => 0)))), (a12, .inl (τ 0, 80, .inl (ar (fun _ => 0)))), (a13, .inl (τ 0, 80, .inl (ar (fun _ => 0)))), (a14, .inl (τ 0, 7, .inl (ar (fun _ => 0)))), (a15, .inl (τ 0, 608, .inl (ar (fun _ => 0)))), (a16, .inl (τ 0, 30, .inl (ar (fun _ => 0)))), (a17, .inl (τ 0, 8, .inl (ar (fun _ => 0)))), (a18, .inl (τ 0, 6, .inl (ar (fun _ => 0)))), (a19, .inl (τ 0, 60, .inl (ar (fun _ => 0)))), (a20, .inl (τ 0, 60, .inl (ar (fun _ => 0)))), (a21, .inl (τ 0, 60, .inl (ar (fun _ => 0)))), (a22, .inl (τ 0, 6, .inl (ar (fun _ => 0)))), (a23, .inl (τ 0, 6, .inl (ar (fun _ => 0)))), (a24, .inl (τ 0, 8, .inl (ar (fun _ => 0)))), (a25, .inl (τ 0, 8, .inl (ar (fun _ => 0)))), (a26, .inl (τ 0, 8, .inl (ar (fun _ => 0))))] H _ := hw
  refine pf_X12_94 (ws' := [(h0, .inr (13, [.int (iI 0), .int (iI 0), .ref a1, .int (iI 4), .int (iI 0), .int (iI 0), .int (iI 0), .int (iI 1), .ref a2, .ref a3, .ref a4, .ref a5, .ref a6, .ref a7, .int (iI 0), .int (iI 0), .int (iI 0), .int (iI 0), .ref a8, .ref a9, .int (iI 0), .ref a10, .ref a11, .ref a12, .int (iI 0), .int (iI 0), .ref a13, .ref a14, .int (iI 0), .ref a15, .int (iI 0), .int (iI 0), .ref a16, .ref a17, .ref a18, .int (iI 0), .ref a19, .ref a20, .ref a21, .int (iI 0), .ref a22, .ref a23, .int (iI 0), .ref a24, .ref a25, .int (iI 0), .ref a26, .null, .null, .int (iI 0), .null, .null, .null])), (a1, .inl (τ 1, 24, .inr (.inl (arL (fun _ => 0))))), (a2, .inl (τ 2, 30, .inl (ar (fun _ => 0)))), (a3, .inl (τ 0, 8, .inl (ar (fun _ => 0)))), (a4, .inl (τ 0, 20, .inl (ar (fun _ => 0)))), (a5, .inl (τ 0, 38, .inl (ar (fun _ => 0)))), (a6, .inl (τ 0, 38, .inl (ar (fun _ => 0)))), (a7, .inl (τ 0, 80, .inl (ar (fun _ => 0)))), (a8, .inl (τ 2, 30, .inl (ar (fun _ => 0)))), (a9, .inl (τ 0, 16, .inl (ar (fun _ => 0)))), (a10, .inl (τ 0, 20, .inl (ar (fun _ => 0)))), (a11, .inl (τ 0, 80, .inl (ar (fun _ => 0)))), (a12, .inl (τ 0, 80, .inl (ar (fun _ => 0)))), (a13, .inl (τ 0, 80, .inl (ar (fun _ => 0)))), (a14, .inl (τ 0, 7, .inl (ar (fun _ => 0)))), (a15, .inl (τ 0, 608, .inl (ar (fun _ => 0)))), (a16, .inl (τ 0, 30, .inl (ar (fun _ => 0)))), (a17, .inl (τ 0, 8, .inl (ar (fun _ => 0)))), (a18, .inl (τ 0, 6, .inl (ar (fun _ => 0)))), (a19, .inl (τ 0, 60, .inl (ar (fun _ => 0)))), (a20, .inl (τ 0, 60, .inl (ar (fun _ => 0)))), (a21, .inl (τ 0, 60, .inl (ar (fun _ => 0)))), (a22, .inl (τ 0, 6, .inl (ar (fun _ => 0)))), (a23, .inl (τ 0, 6, .inl (ar (fun _ => 0)))), (a24, .inl (τ 0, 8, .inl (ar (fun _ => 0)))), (a25, .inl (τ 0, 8, .inl (ar (fun _ => 0)))), (a26, .inl (τ 0, 8, .inl (ar (fun _ => 0))))]) hx hb hC hw hnm 0 rfl (Nat.le_of_ble_eq_true rfl) rfl dX12_init_220 (fun H locs hw => ?_)
  refine lv_aload_n hx hb dX12_init_223 rfl (lv_at hl 0 rfl) ?_
  refine r_bipush hx hb dX12_init_224 (by decide +kernel) ?_
  refine r_newi (N := 8) hx hb hC hA hw ac_int (by decide) (by decide) (by decide) (by decide) rfl rfl dX12_init_226 (fun a27 H hw => ?_)
  have hw : wS D A s.heap [(h0, .inr (13, [.int (iI 0), .int (iI 0), .ref a1, .int (iI 4), .int (iI 0), .int (iI 0), .int (iI 0), .int (iI 1), .ref a2, .ref a3, .ref a4, .ref a5, .ref a6, .ref a7, .int (iI 0), .int (iI 0), .int (iI 0), .int (iI 0), .ref a8, .ref a9, .int (iI 0), .ref a10, .ref a11, .ref a12, .int (iI 0), .int (iI 0), .ref a13, .ref a14, .int (iI 0), .ref a15, .int (iI 0), .int (iI 0), .ref a16, .ref a17, .ref a18, .int (iI 0), .ref a19, .ref a20, .ref a21, .int (iI 0), .ref a22, .ref a23, .int (iI 0), .ref a24, .ref a25, .int (iI 0), .ref a26, .null, .null, .int (iI 0), .null, .null, .null])), (a1, .inl (τ 1, 24, .inr (.inl (arL (fun _ => 0))))), (a2, .inl (τ 2, 30, .inl (ar (fun _ => 0)))), (a3, .inl (τ 0, 8, .inl (ar (fun _ => 0)))), (a4, .inl (τ 0, 20, .inl (ar (fun _ => 0)))), (a5, .inl (τ 0, 38, .inl (ar (fun _ => 0)))), (a6, .inl (τ 0, 38, .inl (ar (fun _ => 0)))), (a7, .inl (τ 0, 80, .inl (ar (fun _ => 0)))), (a8, .inl (τ 2, 30, .inl (ar (fun _ => 0)))), (a9, .inl (τ 0, 16, .inl (ar (fun _ => 0)))), (a10, .inl (τ 0, 20, .inl (ar (fun _ => 0)))), (a11, .inl (τ 0, 80, .inl (ar (fun _ => 0)))), (a12, .inl (τ 0, 80, .inl (ar (fun _ => 0)))), (a13, .inl (τ 0, 80, .inl (ar (fun _ => 0)))), (a14, .inl (τ 0, 7, .inl (ar (fun _ => 0)))), (a15, .inl (τ 0, 608, .inl (ar (fun _ => 0)))), (a16, .inl (τ 0, 30, .inl (ar (fun _ => 0)))), (a17, .inl (τ 0, 8, .inl (ar (fun _ => 0)))), (a18, .inl (τ 0, 6, .inl (ar (fun _ => 0)))), (a19, .inl (τ 0, 60, .inl (ar (fun _ => 0)))), (a20, .inl (τ 0, 60, .inl (ar (fun _ => 0)))), (a21, .inl (τ 0, 60, .inl (ar (fun _ => 0)))), (a22, .inl (τ 0, 6, .inl (ar (fun _ => 0)))), (a23, .inl (τ 0, 6, .inl (ar (fun _ => 0)))), (a24, .inl (τ 0, 8, .inl (ar (fun _ => 0)))), (a25, .inl (τ 0, 8, .inl (ar (fun _ => 0)))), (a26, .inl (τ 0, 8, .inl (ar (fun _ => 0)))), (a27, .inl (τ 0, 8, .inl (ar (fun _ => 0))))] H _ := hw
  refine pf_X12_97 (ws' := [(h0, .inr (13, [.int (iI 0), .int (iI 0), .ref a1, .int (iI 4), .int (iI 0), .int (iI 0), .int (iI 0), .int (iI 1), .ref a2, .ref a3, .ref a4, .ref a5, .ref a6, .ref a7, .int (iI 0), .int (iI 0), .int (iI 0), .int (iI 0), .ref a8, .ref a9, .int (iI 0), .ref a10, .ref a11, .ref a12, .int (iI 0), .int (iI 0), .ref a13, .ref a14, .int (iI 0), .ref a15, .int (iI 0), .int (iI 0), .ref a16, .ref a17, .ref a18, .int (iI 0), .ref a19, .ref a20, .ref a21, .int (iI 0), .ref a22, .ref a23, .int (iI 0), .ref a24, .ref a25, .int (iI 0), .ref a26, .ref a27, .null, .int (iI 0), .null, .null, .null])), (a1, .inl (τ 1, 24, .inr (.inl (arL (fun _ => 0))))), (a2, .inl (τ 2, 30, .inl (ar (fun _ => 0)))), (a3, .inl (τ 0, 8, .inl (ar (fun _ => 0)))), (a4, .inl (τ 0, 20, .inl (ar (fun _ => 0)))), (a5, .inl (τ 0, 38, .inl (ar (fun _ => 0)))), (a6, .inl (τ 0, 38, .inl (ar (fun _ => 0)))), (a7, .inl (τ 0, 80, .inl (ar (fun _ => 0)))), (a8, .inl (τ 2, 30, .inl (ar (fun _ => 0)))), (a9, .inl (τ 0, 16, .inl (ar (fun _ => 0)))), (a10, .inl (τ 0, 20, .inl (ar (fun _ => 0)))), (a11, .inl (τ 0, 80, .inl (ar (fun _ => 0)))), (a12, .inl (τ 0, 80, .inl (ar (fun _ => 0)))), (a13, .inl (τ 0, 80, .inl (ar (fun _ => 0)))), (a14, .inl (τ 0, 7, .inl (ar (fun _ => 0)))), (a15, .inl (τ 0, 608, .inl (ar (fun _ => 0)))), (a16, .inl (τ 0, 30, .inl (ar (fun _ => 0)))), (a17, .inl (τ 0, 8, .inl (ar (fun _ => 0)))), (a18, .inl (τ 0, 6, .inl (ar (fun _ => 0)))), (a19, .inl (τ 0, 60, .inl (ar (fun _ => 0)))), (a20, .inl (τ 0, 60, .inl (ar (fun _ => 0)))), (a21, .inl (τ 0, 60, .inl (ar (fun _ => 0)))), (a22, .inl (τ 0, 6, .inl (ar (fun _ => 0)))), (a23, .inl (τ 0, 6, .inl (ar (fun _ => 0)))), (a24, .inl (τ 0, 8, .inl (ar (fun _ => 0)))), (a25, .inl (τ 0, 8, .inl (ar (fun _ => 0)))), (a26, .inl (τ 0, 8, .inl (ar (fun _ => 0)))), (a27, .inl (τ 0, 8, .inl (ar (fun _ => 0))))]) hx hb hC hw hnm 0 rfl (Nat.le_of_ble_eq_true rfl) rfl dX12_init_228 (fun H locs hw => ?_)
  refine lv_aload_n hx hb dX12_init_231 rfl (lv_at hl 0 rfl) ?_
  refine r_bipush hx hb dX12_init_232 (by decide +kernel) ?_
  refine r_newi (N := 80) hx hb hC hA hw ac_int (by decide) (by decide) (by decide) (by decide) rfl rfl dX12_init_234 (fun a28 H hw => ?_)
  have hw : wS D A s.heap [(h0, .inr (13, [.int (iI 0), .int (iI 0), .ref a1, .int (iI 4), .int (iI 0), .int (iI 0), .int (iI 0), .int (iI 1), .ref a2, .ref a3, .ref a4, .ref a5, .ref a6, .ref a7, .int (iI 0), .int (iI 0), .int (iI 0), .int (iI 0), .ref a8, .ref a9, .int (iI 0), .ref a10, .ref a11, .ref a12, .int (iI 0), .int (iI 0), .ref a13, .ref a14, .int (iI 0), .ref a15, .int (iI 0), .int (iI 0), .ref a16, .ref a17, .ref a18, .int (iI 0), .ref a19, .ref a20, .ref a21, .int (iI 0), .ref a22, .ref a23, .int (iI 0), .ref a24, .ref a25, .int (iI 0), .ref a26, .ref a27, .null, .int (iI 0), .null, .null, .null])), (a1, .inl (τ 1, 24, .inr (.inl (arL (fun _ => 0))))), (a2, .inl (τ 2, 30, .inl (ar (fun _ => 0)))), (a3, .inl (τ 0, 8, .inl (ar (fun _ => 0)))), (a4, .inl (τ 0, 20, .inl (ar (fun _ => 0)))), (a5, .inl (τ 0, 38, .inl (ar (fun _ => 0)))), (a6, .inl (τ 0, 38, .inl (ar (fun _ => 0)))), (a7, .inl (τ 0, 80, .inl (ar (fun _ => 0)))), (a8, .inl (τ 2, 30, .inl (ar (fun _ => 0)))), (a9, .inl (τ 0, 16, .inl (ar (fun _ => 0)))), (a10, .inl (τ 0, 20, .inl (ar (fun _ => 0)))), (a11, .inl (τ 0, 80, .inl (ar (fun _ => 0)))), (a12, .inl (τ 0, 80, .inl (ar (fun _ => 0)))), (a13, .inl (τ 0, 80, .inl (ar (fun _ => 0)))), (a14, .inl (τ 0, 7, .inl (ar (fun _ => 0)))), (a15, .inl (τ 0, 608, .inl (ar (fun _ => 0)))), (a16, .inl (τ 0, 30, .inl (ar (fun _ => 0)))), (a17, .inl (τ 0, 8, .inl (ar (fun _ => 0)))), (a18, .inl (τ 0, 6, .inl (ar (fun _ => 0)))), (a19, .inl (τ 0, 60, .inl (ar (fun _ => 0)))), (a20, .inl (τ 0, 60, .inl (ar (fun _ => 0)))), (a21, .inl (τ 0, 60, .inl (ar (fun _ => 0)))), (a22, .inl (τ 0, 6, .inl (ar (fun _ => 0)))), (a23, .inl (τ 0, 6, .inl (ar (fun _ => 0)))), (a24, .inl (τ 0, 8, .inl (ar (fun _ => 0)))), (a25, .inl (τ 0, 8, .inl (ar (fun _ => 0)))), (a26, .inl (τ 0, 8, .inl (ar (fun _ => 0)))), (a27, .inl (τ 0, 8, .inl (ar (fun _ => 0)))), (a28, .inl (τ 0, 80, .inl (ar (fun _ => 0))))] H _ := hw
  refine pf_X12_100 (ws' := [(h0, .inr (13, [.int (iI 0), .int (iI 0), .ref a1, .int (iI 4), .int (iI 0), .int (iI 0), .int (iI 0), .int (iI 1), .ref a2, .ref a3, .ref a4, .ref a5, .ref a6, .ref a7, .int (iI 0), .int (iI 0), .int (iI 0), .int (iI 0), .ref a8, .ref a9, .int (iI 0), .ref a10, .ref a11, .ref a12, .int (iI 0), .int (iI 0), .ref a13, .ref a14, .int (iI 0), .ref a15, .int (iI 0), .int (iI 0), .ref a16, .ref a17, .ref a18, .int (iI 0), .ref a19, .ref a20, .ref a21, .int (iI 0), .ref a22, .ref a23, .int (iI 0), .ref a24, .ref a25, .int (iI 0), .ref a26, .ref a27, .ref a28, .int (iI 0), .null, .null, .null])), (a1, .inl (τ 1, 24, .inr (.inl (arL (fun _ => 0))))), (a2, .inl (τ 2, 30, .inl (ar (fun _ => 0)))), (a3, .inl (τ 0, 8, .inl (ar (fun _ => 0)))), (a4, .inl (τ 0, 20, .inl (ar (fun _ => 0)))), (a5, .inl (τ 0, 38, .inl (ar (fun _ => 0)))), (a6, .inl (τ 0, 38, .inl (ar (fun _ => 0)))), (a7, .inl (τ 0, 80, .inl (ar (fun _ => 0)))), (a8, .inl (τ 2, 30, .inl (ar (fun _ => 0)))), (a9, .inl (τ 0, 16, .inl (ar (fun _ => 0)))), (a10, .inl (τ 0, 20, .inl (ar (fun _ => 0)))), (a11, .inl (τ 0, 80, .inl (ar (fun _ => 0)))), (a12, .inl (τ 0, 80, .inl (ar (fun _ => 0)))), (a13, .inl (τ 0, 80, .inl (ar (fun _ => 0)))), (a14, .inl (τ 0, 7, .inl (ar (fun _ => 0)))), (a15, .inl (τ 0, 608, .inl (ar (fun _ => 0)))), (a16, .inl (τ 0, 30, .inl (ar (fun _ => 0)))), (a17, .inl (τ 0, 8, .inl (ar (fun _ => 0)))), (a18, .inl (τ 0, 6, .inl (ar (fun _ => 0)))), (a19, .inl (τ 0, 60, .inl (ar (fun _ => 0)))), (a20, .inl (τ 0, 60, .inl (ar (fun _ => 0)))), (a21, .inl (τ 0, 60, .inl (ar (fun _ => 0)))), (a22, .inl (τ 0, 6, .inl (ar (fun _ => 0)))), (a23, .inl (τ 0, 6, .inl (ar (fun _ => 0)))), (a24, .inl (τ 0, 8, .inl (ar (fun _ => 0)))), (a25, .inl (τ 0, 8, .inl (ar (fun _ => 0)))), (a26, .inl (τ 0, 8, .inl (ar (fun _ => 0)))), (a27, .inl (τ 0, 8, .inl (ar (fun _ => 0)))), (a28, .inl (τ 0, 80, .inl (ar (fun _ => 0))))]) hx hb hC hw hnm 0 rfl (Nat.le_of_ble_eq_true rfl) rfl dX12_init_236 (fun H locs hw => ?_)
  refine lv_aload_n hx hb dX12_init_239 rfl (lv_at hl 0 rfl) ?_
  refine r_iconst hx hb dX12_init_240 ?_
  refine r_newz (N := 3) hx hb hC hA hw ac_boolean (by decide) (by decide) (by decide) (by decide) rfl rfl dX12_init_241 (fun a29 H hw => ?_)
  have hw : wS D A s.heap [(h0, .inr (13, [.int (iI 0), .int (iI 0), .ref a1, .int (iI 4), .int (iI 0), .int (iI 0), .int (iI 0), .int (iI 1), .ref a2, .ref a3, .ref a4, .ref a5, .ref a6, .ref a7, .int (iI 0), .int (iI 0), .int (iI 0), .int (iI 0), .ref a8, .ref a9, .int (iI 0), .ref a10, .ref a11, .ref a12, .int (iI 0), .int (iI 0), .ref a13, .ref a14, .int (iI 0), .ref a15, .int (iI 0), .int (iI 0), .ref a16, .ref a17, .ref a18, .int (iI 0), .ref a19, .ref a20, .ref a21, .int (iI 0), .ref a22, .ref a23, .int (iI 0), .ref a24, .ref a25, .int (iI 0), .ref a26, .ref a27, .ref a28, .int (iI 0), .null, .null, .null])), (a1, .inl (τ 1, 24, .inr (.inl (arL (fun _ => 0))))), (a2, .inl (τ 2, 30, .inl (ar (fun _ => 0)))), (a3, .inl (τ 0, 8, .inl (ar (fun _ => 0)))), (a4, .inl (τ 0, 20, .inl (ar (fun _ => 0)))), (a5, .inl (τ 0, 38, .inl (ar (fun _ => 0)))), (a6, .inl (τ 0, 38, .inl (ar (fun _ => 0)))), (a7, .inl (τ 0, 80, .inl (ar (fun _ => 0)))), (a8, .inl (τ 2, 30, .inl (ar (fun _ => 0)))), (a9, .inl (τ 0, 16, .inl (ar (fun _ => 0)))), (a10, .inl (τ 0, 20, .inl (ar (fun _ => 0)))), (a11, .inl (τ 0, 80, .inl (ar (fun _ => 0)))), (a12, .inl (τ 0, 80, .inl (ar (fun _ => 0)))), (a13, .inl (τ 0, 80, .inl (ar (fun _ => 0)))), (a14, .inl (τ 0, 7, .inl (ar (fun _ => 0)))), (a15, .inl (τ 0, 608, .inl (ar (fun _ => 0)))), (a16, .inl (τ 0, 30, .inl (ar (fun _ => 0)))), (a17, .inl (τ 0, 8, .inl (ar (fun _ => 0)))), (a18, .inl (τ 0, 6, .inl (ar (fun _ => 0)))), (a19, .inl (τ 0, 60, .inl (ar (fun _ => 0)))), (a20, .inl (τ 0, 60, .inl (ar (fun _ => 0)))), (a21, .inl (τ 0, 60, .inl (ar (fun _ => 0)))), (a22, .inl (τ 0, 6, .inl (ar (fun _ => 0)))), (a23, .inl (τ 0, 6, .inl (ar (fun _ => 0)))), (a24, .inl (τ 0, 8, .inl (ar (fun _ => 0)))), (a25, .inl (τ 0, 8, .inl (ar (fun _ => 0)))), (a26, .inl (τ 0, 8, .inl (ar (fun _ => 0)))), (a27, .inl (τ 0, 8, .inl (ar (fun _ => 0)))), (a28, .inl (τ 0, 80, .inl (ar (fun _ => 0)))), (a29, .inl (τ 2, 3, .inl (ar (fun _ => 0))))] H _ := hw
  refine pf_X12_103 (ws' := [(h0, .inr (13, [.int (iI 0), .int (iI 0), .ref a1, .int (iI 4), .int (iI 0), .int (iI 0), .int (iI 0), .int (iI 1), .ref a2, .ref a3, .ref a4, .ref a5, .ref a6, .ref a7, .int (iI 0), .int (iI 0), .int (iI 0), .int (iI 0), .ref a8, .ref a9, .int (iI 0), .ref a10, .ref a11, .ref a12, .int (iI 0), .int (iI 0), .ref a13, .ref a14, .int (iI 0), .ref a15, .int (iI 0), .int (iI 0), .ref a16, .ref a17, .ref a18, .int (iI 0), .ref a19, .ref a20, .ref a21, .int (iI 0), .ref a22, .ref a23, .int (iI 0), .ref a24, .ref a25, .int (iI 0), .ref a26, .ref a27, .ref a28, .int (iI 0), .ref a29, .null, .null])), (a1, .inl (τ 1, 24, .inr (.inl (arL (fun _ => 0))))), (a2, .inl (τ 2, 30, .inl (ar (fun _ => 0)))), (a3, .inl (τ 0, 8, .inl (ar (fun _ => 0)))), (a4, .inl (τ 0, 20, .inl (ar (fun _ => 0)))), (a5, .inl (τ 0, 38, .inl (ar (fun _ => 0)))), (a6, .inl (τ 0, 38, .inl (ar (fun _ => 0)))), (a7, .inl (τ 0, 80, .inl (ar (fun _ => 0)))), (a8, .inl (τ 2, 30, .inl (ar (fun _ => 0)))), (a9, .inl (τ 0, 16, .inl (ar (fun _ => 0)))), (a10, .inl (τ 0, 20, .inl (ar (fun _ => 0)))), (a11, .inl (τ 0, 80, .inl (ar (fun _ => 0)))), (a12, .inl (τ 0, 80, .inl (ar (fun _ => 0)))), (a13, .inl (τ 0, 80, .inl (ar (fun _ => 0)))), (a14, .inl (τ 0, 7, .inl (ar (fun _ => 0)))), (a15, .inl (τ 0, 608, .inl (ar (fun _ => 0)))), (a16, .inl (τ 0, 30, .inl (ar (fun _ => 0)))), (a17, .inl (τ 0, 8, .inl (ar (fun _ => 0)))), (a18, .inl (τ 0, 6, .inl (ar (fun _ => 0)))), (a19, .inl (τ 0, 60, .inl (ar (fun _ => 0)))), (a20, .inl (τ 0, 60, .inl (ar (fun _ => 0)))), (a21, .inl (τ 0, 60, .inl (ar (fun _ => 0)))), (a22, .inl (τ 0, 6, .inl (ar (fun _ => 0)))), (a23, .inl (τ 0, 6, .inl (ar (fun _ => 0)))), (a24, .inl (τ 0, 8, .inl (ar (fun _ => 0)))), (a25, .inl (τ 0, 8, .inl (ar (fun _ => 0)))), (a26, .inl (τ 0, 8, .inl (ar (fun _ => 0)))), (a27, .inl (τ 0, 8, .inl (ar (fun _ => 0)))), (a28, .inl (τ 0, 80, .inl (ar (fun _ => 0)))), (a29, .inl (τ 2, 3, .inl (ar (fun _ => 0))))]) hx hb hC hw hnm 0 rfl (Nat.le_of_ble_eq_true rfl) rfl dX12_init_243 (fun H locs hw => ?_)
  refine lv_aload_n hx hb dX12_init_246 rfl (lv_at hl 0 rfl) ?_
  refine r_iconst hx hb dX12_init_247 ?_
  refine r_newi (N := 3) hx hb hC hA hw ac_int (by decide) (by decide) (by decide) (by decide) rfl rfl dX12_init_248 (fun a30 H hw => ?_)
  have hw : wS D A s.heap [(h0, .inr (13, [.int (iI 0), .int (iI 0), .ref a1, .int (iI 4), .int (iI 0), .int (iI 0), .int (iI 0), .int (iI 1), .ref a2, .ref a3, .ref a4, .ref a5, .ref a6, .ref a7, .int (iI 0), .int (iI 0), .int (iI 0), .int (iI 0), .ref a8, .ref a9, .int (iI 0), .ref a10, .ref a11, .ref a12, .int (iI 0), .int (iI 0), .ref a13, .ref a14, .int (iI 0), .ref a15, .int (iI 0), .int (iI 0), .ref a16, .ref a17, .ref a18, .int (iI 0), .ref a19, .ref a20, .ref a21, .int (iI 0), .ref a22, .ref a23, .int (iI 0), .ref a24, .ref a25, .int (iI 0), .ref a26, .ref a27, .ref a28, .int (iI 0), .ref a29, .null, .null])), (a1, .inl (τ 1, 24, .inr (.inl (arL (fun _ => 0))))), (a2, .inl (τ 2, 30, .inl (ar (fun _ => 0)))), (a3, .inl (τ 0, 8, .inl (ar (fun _ => 0)))), (a4, .inl (τ 0, 20, .inl (ar (fun _ => 0)))), (a5, .inl (τ 0, 38, .inl (ar (fun _ => 0)))), (a6, .inl (τ 0, 38, .inl (ar (fun _ => 0)))), (a7, .inl (τ 0, 80, .inl (ar (fun _ => 0)))), (a8, .inl (τ 2, 30, .inl (ar (fun _ => 0)))), (a9, .inl (τ 0, 16, .inl (ar (fun _ => 0)))), (a10, .inl (τ 0, 20, .inl (ar (fun _ => 0)))), (a11, .inl (τ 0, 80, .inl (ar (fun _ => 0)))), (a12, .inl (τ 0, 80, .inl (ar (fun _ => 0)))), (a13, .inl (τ 0, 80, .inl (ar (fun _ => 0)))), (a14, .inl (τ 0, 7, .inl (ar (fun _ => 0)))), (a15, .inl (τ 0, 608, .inl (ar (fun _ => 0)))), (a16, .inl (τ 0, 30, .inl (ar (fun _ => 0)))), (a17, .inl (τ 0, 8, .inl (ar (fun _ => 0)))), (a18, .inl (τ 0, 6, .inl (ar (fun _ => 0)))), (a19, .inl (τ 0, 60, .inl (ar (fun _ => 0)))), (a20, .inl (τ 0, 60, .inl (ar (fun _ => 0)))), (a21, .inl (τ 0, 60, .inl (ar (fun _ => 0)))), (a22, .inl (τ 0, 6, .inl (ar (fun _ => 0)))), (a23, .inl (τ 0, 6, .inl (ar (fun _ => 0)))), (a24, .inl (τ 0, 8, .inl (ar (fun _ => 0)))), (a25, .inl (τ 0, 8, .inl (ar (fun _ => 0)))), (a26, .inl (τ 0, 8, .inl (ar (fun _ => 0)))), (a27, .inl (τ 0, 8, .inl (ar (fun _ => 0)))), (a28, .inl (τ 0, 80, .inl (ar (fun _ => 0)))), (a29, .inl (τ 2, 3, .inl (ar (fun _ => 0)))), (a30, .inl (τ 0, 3, .inl (ar (fun _ => 0))))] H _ := hw
  refine pf_X12_106 (ws' := [(h0, .inr (13, [.int (iI 0), .int (iI 0), .ref a1, .int (iI 4), .int (iI 0), .int (iI 0), .int (iI 0), .int (iI 1), .ref a2, .ref a3, .ref a4, .ref a5, .ref a6, .ref a7, .int (iI 0), .int (iI 0), .int (iI 0), .int (iI 0), .ref a8, .ref a9, .int (iI 0), .ref a10, .ref a11, .ref a12, .int (iI 0), .int (iI 0), .ref a13, .ref a14, .int (iI 0), .ref a15, .int (iI 0), .int (iI 0), .ref a16, .ref a17, .ref a18, .int (iI 0), .ref a19, .ref a20, .ref a21, .int (iI 0), .ref a22, .ref a23, .int (iI 0), .ref a24, .ref a25, .int (iI 0), .ref a26, .ref a27, .ref a28, .int (iI 0), .ref a29, .ref a30, .null])), (a1, .inl (τ 1, 24, .inr (.inl (arL (fun _ => 0))))), (a2, .inl (τ 2, 30, .inl (ar (fun _ => 0)))), (a3, .inl (τ 0, 8, .inl (ar (fun _ => 0)))), (a4, .inl (τ 0, 20, .inl (ar (fun _ => 0)))), (a5, .inl (τ 0, 38, .inl (ar (fun _ => 0)))), (a6, .inl (τ 0, 38, .inl (ar (fun _ => 0)))), (a7, .inl (τ 0, 80, .inl (ar (fun _ => 0)))), (a8, .inl (τ 2, 30, .inl (ar (fun _ => 0)))), (a9, .inl (τ 0, 16, .inl (ar (fun _ => 0)))), (a10, .inl (τ 0, 20, .inl (ar (fun _ => 0)))), (a11, .inl (τ 0, 80, .inl (ar (fun _ => 0)))), (a12, .inl (τ 0, 80, .inl (ar (fun _ => 0)))), (a13, .inl (τ 0, 80, .inl (ar (fun _ => 0)))), (a14, .inl (τ 0, 7, .inl (ar (fun _ => 0)))), (a15, .inl (τ 0, 608, .inl (ar (fun _ => 0)))), (a16, .inl (τ 0, 30, .inl (ar (fun _ => 0)))), (a17, .inl (τ 0, 8, .inl (ar (fun _ => 0)))), (a18, .inl (τ 0, 6, .inl (ar (fun _ => 0)))), (a19, .inl (τ 0, 60, .inl (ar (fun _ => 0)))), (a20, .inl (τ 0, 60, .inl (ar (fun _ => 0)))), (a21, .inl (τ 0, 60, .inl (ar (fun _ => 0)))), (a22, .inl (τ 0, 6, .inl (ar (fun _ => 0)))), (a23, .inl (τ 0, 6, .inl (ar (fun _ => 0)))), (a24, .inl (τ 0, 8, .inl (ar (fun _ => 0)))), (a25, .inl (τ 0, 8, .inl (ar (fun _ => 0)))), (a26, .inl (τ 0, 8, .inl (ar (fun _ => 0)))), (a27, .inl (τ 0, 8, .inl (ar (fun _ => 0)))), (a28, .inl (τ 0, 80, .inl (ar (fun _ => 0)))), (a29, .inl (τ 2, 3, .inl (ar (fun _ => 0)))), (a30, .inl (τ 0, 3, .inl (ar (fun _ => 0))))]) hx hb hC hw hnm 0 rfl (Nat.le_of_ble_eq_true rfl) rfl dX12_init_250 (fun H locs hw => ?_)
  refine lv_aload_n hx hb dX12_init_253 rfl (lv_at hl 0 rfl) ?_
  refine r_bipush hx hb dX12_init_254 (by decide +kernel) ?_
  refine r_newi (N := 114) hx hb hC hA hw ac_int (by decide) (by decide) (by decide) (by decide) rfl rfl dX12_init_256 (fun a31 H hw => ?_)
  have hw : wS D A s.heap [(h0, .inr (13, [.int (iI 0), .int (iI 0), .ref a1, .int (iI 4), .int (iI 0), .int (iI 0), .int (iI 0), .int (iI 1), .ref a2, .ref a3, .ref a4, .ref a5, .ref a6, .ref a7, .int (iI 0), .int (iI 0), .int (iI 0), .int (iI 0), .ref a8, .ref a9, .int (iI 0), .ref a10, .ref a11, .ref a12, .int (iI 0), .int (iI 0), .ref a13, .ref a14, .int (iI 0), .ref a15, .int (iI 0), .int (iI 0), .ref a16, .ref a17, .ref a18, .int (iI 0), .ref a19, .ref a20, .ref a21, .int (iI 0), .ref a22, .ref a23, .int (iI 0), .ref a24, .ref a25, .int (iI 0), .ref a26, .ref a27, .ref a28, .int (iI 0), .ref a29, .ref a30, .null])), (a1, .inl (τ 1, 24, .inr (.inl (arL (fun _ => 0))))), (a2, .inl (τ 2, 30, .inl (ar (fun _ => 0)))), (a3, .inl (τ 0, 8, .inl (ar (fun _ => 0)))), (a4, .inl (τ 0, 20, .inl (ar (fun _ => 0)))), (a5, .inl (τ 0, 38, .inl (ar (fun _ => 0)))), (a6, .inl (τ 0, 38, .inl (ar (fun _ => 0)))), (a7, .inl (τ 0, 80, .inl (ar (fun _ => 0)))), (a8, .inl (τ 2, 30, .inl (ar (fun _ => 0)))), (a9, .inl (τ 0, 16, .inl (ar (fun _ => 0)))), (a10, .inl (τ 0, 20, .inl (ar (fun _ => 0)))), (a11, .inl (τ 0, 80, .inl (ar (fun _ => 0)))), (a12, .inl (τ 0, 80, .inl (ar (fun _ => 0)))), (a13, .inl (τ 0, 80, .inl (ar (fun _ => 0)))), (a14, .inl (τ 0, 7, .inl (ar (fun _ => 0)))), (a15, .inl (τ 0, 608, .inl (ar (fun _ => 0)))), (a16, .inl (τ 0, 30, .inl (ar (fun _ => 0)))), (a17, .inl (τ 0, 8, .inl (ar (fun _ => 0)))), (a18, .inl (τ 0, 6, .inl (ar (fun _ => 0)))), (a19, .inl (τ 0, 60, .inl (ar (fun _ => 0)))), (a20, .inl (τ 0, 60, .inl (ar (fun _ => 0)))), (a21, .inl (τ 0, 60, .inl (ar (fun _ => 0)))), (a22, .inl (τ 0, 6, .inl (ar (fun _ => 0)))), (a23, .inl (τ 0, 6, .inl (ar (fun _ => 0)))), (a24, .inl (τ 0, 8, .inl (ar (fun _ => 0)))), (a25, .inl (τ 0, 8, .inl (ar (fun _ => 0)))), (a26, .inl (τ 0, 8, .inl (ar (fun _ => 0)))), (a27, .inl (τ 0, 8, .inl (ar (fun _ => 0)))), (a28, .inl (τ 0, 80, .inl (ar (fun _ => 0)))), (a29, .inl (τ 2, 3, .inl (ar (fun _ => 0)))), (a30, .inl (τ 0, 3, .inl (ar (fun _ => 0)))), (a31, .inl (τ 0, 114, .inl (ar (fun _ => 0))))] H _ := hw
  refine pf_X12_109 (ws' := [(h0, .inr (13, [.int (iI 0), .int (iI 0), .ref a1, .int (iI 4), .int (iI 0), .int (iI 0), .int (iI 0), .int (iI 1), .ref a2, .ref a3, .ref a4, .ref a5, .ref a6, .ref a7, .int (iI 0), .int (iI 0), .int (iI 0), .int (iI 0), .ref a8, .ref a9, .int (iI 0), .ref a10, .ref a11, .ref a12, .int (iI 0), .int (iI 0), .ref a13, .ref a14, .int (iI 0), .ref a15, .int (iI 0), .int (iI 0), .ref a16, .ref a17, .ref a18, .int (iI 0), .ref a19, .ref a20, .ref a21, .int (iI 0), .ref a22, .ref a23, .int (iI 0), .ref a24, .ref a25, .int (iI 0), .ref a26, .ref a27, .ref a28, .int (iI 0), .ref a29, .ref a30, .ref a31])), (a1, .inl (τ 1, 24, .inr (.inl (arL (fun _ => 0))))), (a2, .inl (τ 2, 30, .inl (ar (fun _ => 0)))), (a3, .inl (τ 0, 8, .inl (ar (fun _ => 0)))), (a4, .inl (τ 0, 20, .inl (ar (fun _ => 0)))), (a5, .inl (τ 0, 38, .inl (ar (fun _ => 0)))), (a6, .inl (τ 0, 38, .inl (ar (fun _ => 0)))), (a7, .inl (τ 0, 80, .inl (ar (fun _ => 0)))), (a8, .inl (τ 2, 30, .inl (ar (fun _ => 0)))), (a9, .inl (τ 0, 16, .inl (ar (fun _ => 0)))), (a10, .inl (τ 0, 20, .inl (ar (fun _ => 0)))), (a11, .inl (τ 0, 80, .inl (ar (fun _ => 0)))), (a12, .inl (τ 0, 80, .inl (ar (fun _ => 0)))), (a13, .inl (τ 0, 80, .inl (ar (fun _ => 0)))), (a14, .inl (τ 0, 7, .inl (ar (fun _ => 0)))), (a15, .inl (τ 0, 608, .inl (ar (fun _ => 0)))), (a16, .inl (τ 0, 30, .inl (ar (fun _ => 0)))), (a17, .inl (τ 0, 8, .inl (ar (fun _ => 0)))), (a18, .inl (τ 0, 6, .inl (ar (fun _ => 0)))), (a19, .inl (τ 0, 60, .inl (ar (fun _ => 0)))), (a20, .inl (τ 0, 60, .inl (ar (fun _ => 0)))), (a21, .inl (τ 0, 60, .inl (ar (fun _ => 0)))), (a22, .inl (τ 0, 6, .inl (ar (fun _ => 0)))), (a23, .inl (τ 0, 6, .inl (ar (fun _ => 0)))), (a24, .inl (τ 0, 8, .inl (ar (fun _ => 0)))), (a25, .inl (τ 0, 8, .inl (ar (fun _ => 0)))), (a26, .inl (τ 0, 8, .inl (ar (fun _ => 0)))), (a27, .inl (τ 0, 8, .inl (ar (fun _ => 0)))), (a28, .inl (τ 0, 80, .inl (ar (fun _ => 0)))), (a29, .inl (τ 2, 3, .inl (ar (fun _ => 0)))), (a30, .inl (τ 0, 3, .inl (ar (fun _ => 0)))), (a31, .inl (τ 0, 114, .inl (ar (fun _ => 0))))]) hx hb hC hw hnm 0 rfl (Nat.le_of_ble_eq_true rfl) rfl dX12_init_258 (fun H locs hw => ?_)
  refine W.widen (k := 31) (n := 1627) (by decide) (by decide) ?_
  exact r_vret hx hb hr hlk hw [(h0, .inr (13, [.int (iI 0), .int (iI 0), .ref a1, .int (iI 4), .int (iI 0), .int (iI 0), .int (iI 0), .int (iI 1), .ref a2, .ref a3, .ref a4, .ref a5, .ref a6, .ref a7, .int (iI 0), .int (iI 0), .int (iI 0), .int (iI 0), .ref a8, .ref a9, .int (iI 0), .ref a10, .ref a11, .ref a12, .int (iI 0), .int (iI 0), .ref a13, .ref a14, .int (iI 0), .ref a15, .int (iI 0), .int (iI 0), .ref a16, .ref a17, .ref a18, .int (iI 0), .ref a19, .ref a20, .ref a21, .int (iI 0), .ref a22, .ref a23, .int (iI 0), .ref a24, .ref a25, .int (iI 0), .ref a26, .ref a27, .ref a28, .int (iI 0), .ref a29, .ref a30, .ref a31])), (a1, .inl (τ 1, 24, .inr (.inl (arL (fun _ => 0))))), (a2, .inl (τ 2, 30, .inl (ar (fun _ => 0)))), (a3, .inl (τ 0, 8, .inl (ar (fun _ => 0)))), (a4, .inl (τ 0, 20, .inl (ar (fun _ => 0)))), (a5, .inl (τ 0, 38, .inl (ar (fun _ => 0)))), (a6, .inl (τ 0, 38, .inl (ar (fun _ => 0)))), (a7, .inl (τ 0, 80, .inl (ar (fun _ => 0)))), (a8, .inl (τ 2, 30, .inl (ar (fun _ => 0)))), (a9, .inl (τ 0, 16, .inl (ar (fun _ => 0)))), (a10, .inl (τ 0, 20, .inl (ar (fun _ => 0)))), (a11, .inl (τ 0, 80, .inl (ar (fun _ => 0)))), (a12, .inl (τ 0, 80, .inl (ar (fun _ => 0)))), (a13, .inl (τ 0, 80, .inl (ar (fun _ => 0)))), (a14, .inl (τ 0, 7, .inl (ar (fun _ => 0)))), (a15, .inl (τ 0, 608, .inl (ar (fun _ => 0)))), (a16, .inl (τ 0, 30, .inl (ar (fun _ => 0)))), (a17, .inl (τ 0, 8, .inl (ar (fun _ => 0)))), (a18, .inl (τ 0, 6, .inl (ar (fun _ => 0)))), (a19, .inl (τ 0, 60, .inl (ar (fun _ => 0)))), (a20, .inl (τ 0, 60, .inl (ar (fun _ => 0)))), (a21, .inl (τ 0, 60, .inl (ar (fun _ => 0)))), (a22, .inl (τ 0, 6, .inl (ar (fun _ => 0)))), (a23, .inl (τ 0, 6, .inl (ar (fun _ => 0)))), (a24, .inl (τ 0, 8, .inl (ar (fun _ => 0)))), (a25, .inl (τ 0, 8, .inl (ar (fun _ => 0)))), (a26, .inl (τ 0, 8, .inl (ar (fun _ => 0)))), (a27, .inl (τ 0, 8, .inl (ar (fun _ => 0)))), (a28, .inl (τ 0, 80, .inl (ar (fun _ => 0)))), (a29, .inl (τ 2, 3, .inl (ar (fun _ => 0)))), (a30, .inl (τ 0, 3, .inl (ar (fun _ => 0)))), (a31, .inl (τ 0, 114, .inl (ar (fun _ => 0))))] [0, 1, 2, 3, 4, 5, 6, 7, 8, 9, 10, 11, 12, 13, 14, 15, 16, 17, 18, 19, 20, 21, 22, 23, 24, 25, 26, 27, 28, 29, 30, 31] rfl (by decide) ⟨(fun k => ([a1, a2, a3, a4, a5, a6, a7, a8, a9, a10, a11, a12, a13, a14, a15, a16, a17, a18, a19, a20, a21, a22, a23, a24, a25, a26, a27, a28, a29, a30, a31] : List Nat).getD k 0), rfl⟩ dX12_init_261
def MM0 : Mem := fun k j => if k = 1 ∧ j = 3 then 4 else if k = 1 ∧ j = 7 then 1 else 0
theorem MM0_R : MR MM0 := ⟨fun k j _ => by unfold MM0; repeat (first | (split <;> try decide)), fun j => by unfold MM0; repeat (first | (split <;> try decide))⟩
set_option maxRecDepth 100000 in
set_option maxHeartbeats 4000000 in
theorem WMi_conv {D : va_G} {A : Nat → Prop} {H0 H : Heap} {locs : List Loc} {τ : Nat → ClassId} {h0 : Nat} {q : Nat → Nat} (hw : wS D A H0 (WMi τ h0 q) H locs) : ∃ ad : Nat → Nat, ad 1 = h0 ∧ wS D A H0 (WM τ ad MM0) H locs :=
  ⟨fun k => match k with | 0 => q 0 | 1 => h0 | k + 2 => q (k + 1), rfl, hw.pick (wc := WM τ (fun k => match k with | 0 => q 0 | 1 => h0 | k + 2 => q (k + 1)) MM0) [1, 0, 2, 3, 4, 5, 6, 7, 8, 9, 10, 11, 12, 13, 14, 15, 16, 17, 18, 19, 20, 21, 22, 23, 24, 25, 26, 27, 28, 29, 30, 31] (by decide) rfl⟩
theorem WMi_conv2 {D : va_G} {A : Nat → Prop} {H0 H : Heap} {locs : List Loc} {τ : Nat → ClassId} {h0 : Nat} {q : Nat → Nat} {r : va_W} (hw : wS D A H0 (r ++ WMi τ h0 q) H locs) : ∃ ad : Nat → Nat, ad 1 = h0 ∧ wS D A H0 (r ++ WM τ ad MM0) H locs := by
  have hw2 : wS D A H0 (WMi τ h0 q) H locs := hw.pick ((List.range (WMi τ h0 q).length).map (fun i => i + r.length)) (nd_of (nodup_shift _ _)) (pick_r _ _)
  obtain ⟨ad, h1, _⟩ := WMi_conv hw2
  have hx : ∃ ad : Nat → Nat, ad 1 = h0 ∧ ([1, 0, 2, 3, 4, 5, 6, 7, 8, 9, 10, 11, 12, 13, 14, 15, 16, 17, 18, 19, 20, 21, 22, 23, 24, 25, 26, 27, 28, 29, 30, 31] : List Nat).map (fun i => (WMi τ h0 q)[i]?) = (WM τ ad MM0).map some := ⟨fun k => match k with | 0 => q 0 | 1 => h0 | k + 2 => q (k + 1), rfl, rfl⟩
  obtain ⟨ad, h1, h2⟩ := hx
  refine ⟨ad, h1, hw.pick (List.range r.length ++ (([1, 0, 2, 3, 4, 5, 6, 7, 8, 9, 10, 11, 12, 13, 14, 15, 16, 17, 18, 19, 20, 21, 22, 23, 24, 25, 26, 27, 28, 29, 30, 31] : List Nat).map (fun i => i + r.length))) (nd_of ?_) ?_⟩
  · rw [List.nodup_append]
    refine ⟨List.nodup_range, List.Pairwise.map _ (fun a b (h : a ≠ b) hab => h (by omega)) (by decide), ?_⟩
    intro x hx y hy
    obtain ⟨i, hi, rfl⟩ := List.mem_map.mp hy
    have := List.mem_range.mp hx
    omega
  · rw [List.map_append, List.map_append, pick_l, ← h2, List.map_map]
    congr 1
    apply List.map_congr_left
    intro i _
    show (r ++ WMi τ h0 q)[i + r.length]? = (WMi τ h0 q)[i]?
    rw [List.getElem?_append_right (Nat.le_add_left _ _), Nat.add_sub_cancel]
end
section
/-! the law's own methods that catch -/
abbrev OC (τ : Nat → ClassId) (ao : Nat) (g : Int → Int) : Nat × va_E := (ao, .inl (τ 1, 1, .inr (.inl (arL g))))
def EW (τ : Nat → ClassId) (ad : Nat → Nat) (ao : Nat) (g : Int → Int) (Q : Int → Mem → Prop) (E : Mem → Prop) : Int → va_W → Prop := fun z w => ∃ (M' : Mem) (g' : Int → Int), MR M' ∧ ((z = 0 ∧ ∃ v, lR v ∧ Q v M' ∧ g' = up g 0 v) ∨ (z = 1 ∧ E M' ∧ g' = g)) ∧ w = OC τ ao g' :: WX τ ad M'
set_option maxHeartbeats 4000000 in
set_option maxRecDepth 100000 in
theorem lw_hearse (l : Launch) (hst : l.stackTraces = false) (D : va_G) (τ : Nat → ClassId) (ad : Nat → Nat) (sA sV : Nat → Nat) (sz ao : Nat) (g : Int → Int) (p1 p2 : Int) (hp1 : iR p1) (hp2 : iR p2) (M : Mem) (hM : MR M) (Q : Int → Mem → Prop) (E : Mem → Prop) (hv : qX11_hearse p1 p2 M Q E) : Met l yL_hearse (.codeWith yL_hearse cL_hearse 5 (some .int) [(0, 10, 13, 13)] :: lw_good) (rmk 9 1 6) (xPc D τ sA sV (OC τ ao g :: WX τ ad M) sz [.ref (ad 155), .int (iI p1), .int (iI p2), .ref ao]) (gQi D (EW τ ad ao g Q E) (va_A (OC τ ao g :: WX τ ad M) sz)) 1 6 (va_A (OC τ ao g :: WX τ ad M) sz) := by
  refine va_MetW (cc := cL_hearse) (maxL := 5) (ret := some .int) (hh := [(0, 10, 13, 13)]) (by decide +kernel) rfl ?_
  intro p e s m args below meth c s₁ B hml hv2
  obtain ⟨rfl, ⟨⟨hsz, hP, hK, hD0⟩, hLS⟩, hX⟩ := hv2
  have hts := atoms_spec (ws := .codeWith yL_hearse cL_hearse 5 (some .int) [(0, 10, 13, 13)] :: lw_good) B.pre
  have hown : s.vm.findClass (yL_hearse).cls = some m.cls := findClass_of_methodNamed B.named
  obtain ⟨x9, htb, hcv9, hct9, hhp9⟩ : ∃ x9, c.exceptionTable.toList = [] ++ x9 :: [] ∧ covers x9 5 = true ∧ x9.catchType = 13 ∧ x9.handlerPc = 13 := ⟨_, vx_table (x := yL_hearse) B (hts _ List.mem_cons_self), rfl, rfl, rfl⟩
  have hx := B.exec
  have hb := B.bytes
  have hr := B.returns
  have hlk := B.notSynchronized
  have hC : cx D τ s m ([.ref (ad 155), .int (iI p1), .int (iI p2), .ref ao] : List Value).toArray RL := ⟨fun w hw => hts w (List.mem_cons_of_mem _ hw), hown, hK.1, hK.2⟩
  subst hsz
  have hD := hD0.self (sz := s.heap.size)
  generalize hAe : va_A (OC τ ao g :: WX τ ad M) s.heap.size = A at hD hLS hX ⊢
  have hA : ∀ q : Nat, s.heap.size ≤ q → A q := fun q h => by rw [← hAe]; exact Or.inr h
  have hw : wS D A s.heap ([OC τ ao g] ++ WX τ ad M) s.heap [] := ⟨hP, hD, va_S.rf⟩
  have hw := hw.swap
  have hl := lv_entry [.ref (ad 155), .int (iI p1), .int (iI p2), .ref ao] (n := 5) (Nat.le_of_ble_eq_true rfl)
  rw [lg_entry_eq]
  generalize (lg_sl [.ref (ad 155), .int (iI p1), .int (iI p2), .ref ao] ++ List.replicate (5 - (lg_sl [.ref (ad 155), .int (iI p1), .int (iI p2), .ref ao]).length) Slot.unset).toArray = ls at hl ⊢
  have hl : lv_has ls 5 [(0, .ref (ad 155)), (1, .int (iI p1)), (2, .int (iI p2)), (3, .ref ao)] := hl
  refine lv_aload_n hx hb dL_hearse_0 rfl (lv_at hl 3 rfl) ?_
  refine r_iconst hx hb dL_hearse_1 ?_
  refine lv_aload_n hx hb dL_hearse_2 rfl (lv_at hl 0 rfl) ?_
  refine lv_iload_n hx hb dL_hearse_3 rfl (lv_at hl 1 rfl) ?_
  refine lv_iload_n hx hb dL_hearse_4 rfl (lv_at hl 2 rfl) ?_
  have hCm := pick_l (WX τ ad M) [OC τ ao g]
  have hRm := pick_r (WX τ ad M) [OC τ ao g]
  have hF := va_free hw.2.1 hw.2.2 hA _ hCm
  have hnC := va_nd_range (WX τ ad M).length
  have hdis : ∀ i ∈ (List.range [OC τ ao g].length).map (fun i => i + (WX τ ad M).length), i ∉ List.range (WX τ ad M).length := fun i hi h => by
    obtain ⟨j, _, rfl⟩ := List.mem_map.mp hi
    have := List.mem_range.mp h
    omega
  refine vx_calli (vx_runV (As := [.int (iI p1), .int (iI p2)]) (rest := [.int (iI 0), .ref ao]) ⟨hx, hb, hml, hC.2.1, hC.1⟩ (mX11_hearse l hst D τ ad sA sV _ p1 p2 hp1 hp2 M hM Q E hv) (cwV 2 hC.1 (g_wsV kX11_hearse ml_L_7) rfl rfl rfl ⟨rfl, kX11_hearse.2.2.2⟩ (rm_ok (by decide) (by decide))) ⟨xPc_blind, va_recv (ci := 12) (q0 := 155) hC.2.2.1 (P_pick hw.1 hCm) rfl (gX_155 τ ad M), x_pre rfl hC hA hLS hX hw hCm hnC⟩ rfl rfl hl.1 rfl (lv_room (Nat.le_of_ble_eq_true rfl)) dL_hearse_5 ⟨by decide, by decide⟩) hw.2.2 (fun q _ h => hF q h) hF (fun q _ h => hF q h) (fun E1 ce q9 u t H1 locs1 ht hvm hp hB hsz hk hS hce hcv hcl => ?_) (fun r u t H1 locs1 ht hvm hp hB hsz hk hS => ?_)
  · obtain ⟨rfl, hB⟩ := hB
    obtain ⟨w1, ⟨M1, hR1, hQ1, rfl⟩, hw⟩ := g_behind hw hA hCm hRm (nd_of (nodup_shift _ _)) hdis ht hk hS hB
    refine vx_catch (name := "java/util/NoSuchElementException") hC.2.1 [] x9 [] htb (fun z h => nomatch h) hcv9 (by rw [hct9]; decide) (by rw [hct9]; exact hC.1 _ x_cl13) (NXw.use hC.2.2.2.1 _ x_cast) hce hcv hcl ?_
    rw [hhp9]
    refine lv_astore (lv' := [(4, .ref q9), (0, .ref (ad 155)), (1, .int (iI p1)), (2, .int (iI p2)), (3, .ref ao)]) hx hb dL_hearse_13 hl (by decide) rfl (fun ls hl => ?_)
    refine r_iconst hx hb dL_hearse_15 ?_
    refine r_iret (z := 1) hx hb hr hlk hw (OC τ ao g :: WX τ ad M1) (List.range (OC τ ao g :: WX τ ad M1).length) (pick_all _) (va_nd_range _) (by decide) ⟨M1, g, hR1, Or.inr ⟨rfl, hQ1, rfl⟩, rfl⟩ dL_hearse_16
  · obtain ⟨z, hz, e1, hB⟩ := hB
    obtain ⟨w1, ⟨M1, hR1, hQ1, rfl⟩, hw⟩ := g_behind hw hA hCm hRm (nd_of (nodup_shift _ _)) hdis ht hk hS hB
    rw [hp, e1]
    refine r_i2l hx hb dL_hearse_8 hz ?_
    refine r_last (ws' := OC τ ao (up g 0 z) :: WX τ ad M1) hx hb hC hw 0 rfl (by decide) (by decide) (by decide) rfl dL_hearse_9 (fun H locs hw => ?_)
    refine lv_goto (tgt := 17) hx hb dL_hearse_10 (by decide) ?_
    refine r_iconst hx hb dL_hearse_17 ?_
    refine W.widen (k := 1) (n := 6) (by decide) (by decide) ?_
    exact r_iret (z := 0) hx hb hr hlk hw (OC τ ao (up g 0 z) :: WX τ ad M1) (List.range (OC τ ao (up g 0 z) :: WX τ ad M1).length) (pick_all _) (va_nd_range _) (by decide) ⟨M1, up g 0 z, hR1, Or.inl ⟨rfl, z, (iR_lR hz), hQ1, rfl⟩, rfl⟩ dL_hearse_18
set_option maxHeartbeats 4000000 in
set_option maxRecDepth 100000 in
theorem lw_mourner (l : Launch) (hst : l.stackTraces = false) (D : va_G) (τ : Nat → ClassId) (ad : Nat → Nat) (sA sV : Nat → Nat) (sz ao : Nat) (g : Int → Int) (p1 p2 : Int) (hp1 : iR p1) (hp2 : iR p2) (M : Mem) (hM : MR M) (Q : Int → Mem → Prop) (E : Mem → Prop) (hv : qX11_mourner p1 p2 M Q E) : Met l yL_mourner (.codeWith yL_mourner cL_mourner 5 (some .int) [(0, 10, 13, 13)] :: lw_good) (rmk 9 1 6) (xPc D τ sA sV (OC τ ao g :: WX τ ad M) sz [.ref (ad 155), .int (iI p1), .int (iI p2), .ref ao]) (gQi D (EW τ ad ao g Q E) (va_A (OC τ ao g :: WX τ ad M) sz)) 1 6 (va_A (OC τ ao g :: WX τ ad M) sz) := by
  refine va_MetW (cc := cL_mourner) (maxL := 5) (ret := some .int) (hh := [(0, 10, 13, 13)]) (by decide +kernel) rfl ?_
  intro p e s m args below meth c s₁ B hml hv2
  obtain ⟨rfl, ⟨⟨hsz, hP, hK, hD0⟩, hLS⟩, hX⟩ := hv2
  have hts := atoms_spec (ws := .codeWith yL_mourner cL_mourner 5 (some .int) [(0, 10, 13, 13)] :: lw_good) B.pre
  have hown : s.vm.findClass (yL_mourner).cls = some m.cls := findClass_of_methodNamed B.named
  obtain ⟨x9, htb, hcv9, hct9, hhp9⟩ : ∃ x9, c.exceptionTable.toList = [] ++ x9 :: [] ∧ covers x9 5 = true ∧ x9.catchType = 13 ∧ x9.handlerPc = 13 := ⟨_, vx_table (x := yL_mourner) B (hts _ List.mem_cons_self), rfl, rfl, rfl⟩
  have hx := B.exec
  have hb := B.bytes
  have hr := B.returns
  have hlk := B.notSynchronized
  have hC : cx D τ s m ([.ref (ad 155), .int (iI p1), .int (iI p2), .ref ao] : List Value).toArray RL := ⟨fun w hw => hts w (List.mem_cons_of_mem _ hw), hown, hK.1, hK.2⟩
  subst hsz
  have hD := hD0.self (sz := s.heap.size)
  generalize hAe : va_A (OC τ ao g :: WX τ ad M) s.heap.size = A at hD hLS hX ⊢
  have hA : ∀ q : Nat, s.heap.size ≤ q → A q := fun q h => by rw [← hAe]; exact Or.inr h
  have hw : wS D A s.heap ([OC τ ao g] ++ WX τ ad M) s.heap [] := ⟨hP, hD, va_S.rf⟩
  have hw := hw.swap
  have hl := lv_entry [.ref (ad 155), .int (iI p1), .int (iI p2), .ref ao] (n := 5) (Nat.le_of_ble_eq_true rfl)
  rw [lg_entry_eq]
  generalize (lg_sl [.ref (ad 155), .int (iI p1), .int (iI p2), .ref ao] ++ List.replicate (5 - (lg_sl [.ref (ad 155), .int (iI p1), .int (iI p2), .ref ao]).length) Slot.unset).toArray = ls at hl ⊢
  have hl : lv_has ls 5 [(0, .ref (ad 155)), (1, .int (iI p1)), (2, .int (iI p2)), (3, .ref ao)] := hl
  refine lv_aload_n hx hb dL_mourner_0 rfl (lv_at hl 3 rfl) ?_
  refine r_iconst hx hb dL_mourner_1 ?_
  refine lv_aload_n hx hb dL_mourner_2 rfl (lv_at hl 0 rfl) ?_
  refine lv_iload_n hx hb dL_mourner_3 rfl (lv_at hl 1 rfl) ?_
  refine lv_iload_n hx hb dL_mourner_4 rfl (lv_at hl 2 rfl) ?_
  have hCm := pick_l (WX τ ad M) [OC τ ao g]
  have hRm := pick_r (WX τ ad M) [OC τ ao g]
  have hF := va_free hw.2.1 hw.2.2 hA _ hCm
  have hnC := va_nd_range (WX τ ad M).length
  have hdis : ∀ i ∈ (List.range [OC τ ao g].length).map (fun i => i + (WX τ ad M).length), i ∉ List.range (WX τ ad M).length := fun i hi h => by
    obtain ⟨j, _, rfl⟩ := List.mem_map.mp hi
    have := List.mem_range.mp h
    omega
  refine vx_calli (vx_runV (As := [.int (iI p1), .int (iI p2)]) (rest := [.int (iI 0), .ref ao]) ⟨hx, hb, hml, hC.2.1, hC.1⟩ (mX11_mourner l hst D τ ad sA sV _ p1 p2 hp1 hp2 M hM Q E hv) (cwV 2 hC.1 (g_wsV kX11_mourner ml_L_15) rfl rfl rfl ⟨rfl, kX11_mourner.2.2.2⟩ (rm_ok (by decide) (by decide))) ⟨xPc_blind, va_recv (ci := 12) (q0 := 155) hC.2.2.1 (P_pick hw.1 hCm) rfl (gX_155 τ ad M), x_pre rfl hC hA hLS hX hw hCm hnC⟩ rfl rfl hl.1 rfl (lv_room (Nat.le_of_ble_eq_true rfl)) dL_mourner_5 ⟨by decide, by decide⟩) hw.2.2 (fun q _ h => hF q h) hF (fun q _ h => hF q h) (fun E1 ce q9 u t H1 locs1 ht hvm hp hB hsz hk hS hce hcv hcl => ?_) (fun r u t H1 locs1 ht hvm hp hB hsz hk hS => ?_)
  · obtain ⟨rfl, hB⟩ := hB
    obtain ⟨w1, ⟨M1, hR1, hQ1, rfl⟩, hw⟩ := g_behind hw hA hCm hRm (nd_of (nodup_shift _ _)) hdis ht hk hS hB
    refine vx_catch (name := "java/util/NoSuchElementException") hC.2.1 [] x9 [] htb (fun z h => nomatch h) hcv9 (by rw [hct9]; decide) (by rw [hct9]; exact hC.1 _ x_cl13) (NXw.use hC.2.2.2.1 _ x_cast) hce hcv hcl ?_
    rw [hhp9]
    refine lv_astore (lv' := [(4, .ref q9), (0, .ref (ad 155)), (1, .int (iI p1)), (2, .int (iI p2)), (3, .ref ao)]) hx hb dL_mourner_13 hl (by decide) rfl (fun ls hl => ?_)
    refine r_iconst hx hb dL_mourner_15 ?_
    refine r_iret (z := 1) hx hb hr hlk hw (OC τ ao g :: WX τ ad M1) (List.range (OC τ ao g :: WX τ ad M1).length) (pick_all _) (va_nd_range _) (by decide) ⟨M1, g, hR1, Or.inr ⟨rfl, hQ1, rfl⟩, rfl⟩ dL_mourner_16
  · obtain ⟨z, hz, e1, hB⟩ := hB
    obtain ⟨w1, ⟨M1, hR1, hQ1, rfl⟩, hw⟩ := g_behind hw hA hCm hRm (nd_of (nodup_shift _ _)) hdis ht hk hS hB
    rw [hp, e1]
    refine r_i2l hx hb dL_mourner_8 hz ?_
    refine r_last (ws' := OC τ ao (up g 0 z) :: WX τ ad M1) hx hb hC hw 0 rfl (by decide) (by decide) (by decide) rfl dL_mourner_9 (fun H locs hw => ?_)
    refine lv_goto (tgt := 17) hx hb dL_mourner_10 (by decide) ?_
    refine r_iconst hx hb dL_mourner_17 ?_
    refine W.widen (k := 1) (n := 6) (by decide) (by decide) ?_
    exact r_iret (z := 0) hx hb hr hlk hw (OC τ ao (up g 0 z) :: WX τ ad M1) (List.range (OC τ ao (up g 0 z) :: WX τ ad M1).length) (pick_all _) (va_nd_range _) (by decide) ⟨M1, up g 0 z, hR1, Or.inl ⟨rfl, z, (iR_lR hz), hQ1, rfl⟩, rfl⟩ dL_mourner_18
set_option maxHeartbeats 4000000 in
set_option maxRecDepth 100000 in
theorem lw_row (l : Launch) (hst : l.stackTraces = false) (D : va_G) (τ : Nat → ClassId) (ad : Nat → Nat) (sA sV : Nat → Nat) (sz ao : Nat) (g : Int → Int) (p1 : Int) (hp1 : iR p1) (M : Mem) (hM : MR M) (Q : Int → Mem → Prop) (E : Mem → Prop) (hv : qX11_row p1 M Q E) : Met l yL_row (.codeWith yL_row cL_row 4 (some .int) [(0, 8, 11, 13)] :: lw_good) (rmk 9 1 6) (xPc D τ sA sV (OC τ ao g :: WX τ ad M) sz [.ref (ad 155), .int (iI p1), .ref ao]) (gQi D (EW τ ad ao g Q E) (va_A (OC τ ao g :: WX τ ad M) sz)) 1 6 (va_A (OC τ ao g :: WX τ ad M) sz) := by
  refine va_MetW (cc := cL_row) (maxL := 4) (ret := some .int) (hh := [(0, 8, 11, 13)]) (by decide +kernel) rfl ?_
  intro p e s m args below meth c s₁ B hml hv2
  obtain ⟨rfl, ⟨⟨hsz, hP, hK, hD0⟩, hLS⟩, hX⟩ := hv2
  have hts := atoms_spec (ws := .codeWith yL_row cL_row 4 (some .int) [(0, 8, 11, 13)] :: lw_good) B.pre
  have hown : s.vm.findClass (yL_row).cls = some m.cls := findClass_of_methodNamed B.named
  obtain ⟨x9, htb, hcv9, hct9, hhp9⟩ : ∃ x9, c.exceptionTable.toList = [] ++ x9 :: [] ∧ covers x9 4 = true ∧ x9.catchType = 13 ∧ x9.handlerPc = 11 := ⟨_, vx_table (x := yL_row) B (hts _ List.mem_cons_self), rfl, rfl, rfl⟩
  have hx := B.exec
  have hb := B.bytes
  have hr := B.returns
  have hlk := B.notSynchronized
  have hC : cx D τ s m ([.ref (ad 155), .int (iI p1), .ref ao] : List Value).toArray RL := ⟨fun w hw => hts w (List.mem_cons_of_mem _ hw), hown, hK.1, hK.2⟩
  subst hsz
  have hD := hD0.self (sz := s.heap.size)
  generalize hAe : va_A (OC τ ao g :: WX τ ad M) s.heap.size = A at hD hLS hX ⊢
  have hA : ∀ q : Nat, s.heap.size ≤ q → A q := fun q h => by rw [← hAe]; exact Or.inr h
  have hw : wS D A s.heap ([OC τ ao g] ++ WX τ ad M) s.heap [] := ⟨hP, hD, va_S.rf⟩
  have hw := hw.swap
  have hl := lv_entry [.ref (ad 155), .int (iI p1), .ref ao] (n := 4) (Nat.le_of_ble_eq_true rfl)
  rw [lg_entry_eq]
  generalize (lg_sl [.ref (ad 155), .int (iI p1), .ref ao] ++ List.replicate (4 - (lg_sl [.ref (ad 155), .int (iI p1), .ref ao]).length) Slot.unset).toArray = ls at hl ⊢
  have hl : lv_has ls 4 [(0, .ref (ad 155)), (1, .int (iI p1)), (2, .ref ao)] := hl
  refine lv_aload_n hx hb dL_row_0 rfl (lv_at hl 2 rfl) ?_
  refine r_iconst hx hb dL_row_1 ?_
  refine lv_aload_n hx hb dL_row_2 rfl (lv_at hl 0 rfl) ?_
  refine lv_iload_n hx hb dL_row_3 rfl (lv_at hl 1 rfl) ?_
  have hCm := pick_l (WX τ ad M) [OC τ ao g]
  have hRm := pick_r (WX τ ad M) [OC τ ao g]
  have hF := va_free hw.2.1 hw.2.2 hA _ hCm
  have hnC := va_nd_range (WX τ ad M).length
  have hdis : ∀ i ∈ (List.range [OC τ ao g].length).map (fun i => i + (WX τ ad M).length), i ∉ List.range (WX τ ad M).length := fun i hi h => by
    obtain ⟨j, _, rfl⟩ := List.mem_map.mp hi
    have := List.mem_range.mp h
    omega
  refine vx_calll (vx_runV (As := [.int (iI p1)]) (rest := [.int (iI 0), .ref ao]) ⟨hx, hb, hml, hC.2.1, hC.1⟩ (mX11_row l hst D τ ad sA sV _ p1 hp1 M hM Q E hv) (cwV 1 hC.1 (g_wsV kX11_row ml_L_18) rfl rfl rfl ⟨rfl, kX11_row.2.2.2⟩ (rm_ok (by decide) (by decide))) ⟨xPc_blind, va_recv (ci := 12) (q0 := 155) hC.2.2.1 (P_pick hw.1 hCm) rfl (gX_155 τ ad M), x_pre rfl hC hA hLS hX hw hCm hnC⟩ rfl rfl hl.1 rfl (lv_room (Nat.le_of_ble_eq_true rfl)) dL_row_4 ⟨by decide, by decide⟩) hw.2.2 (fun q _ h => hF q h) hF (fun q _ h => hF q h) (fun E1 ce q9 u t H1 locs1 ht hvm hp hB hsz hk hS hce hcv hcl => ?_) (fun r u t H1 locs1 ht hvm hp hB hsz hk hS => ?_)
  · obtain ⟨rfl, hB⟩ := hB
    obtain ⟨w1, ⟨M1, hR1, hQ1, rfl⟩, hw⟩ := g_behind hw hA hCm hRm (nd_of (nodup_shift _ _)) hdis ht hk hS hB
    refine vx_catch (name := "java/util/NoSuchElementException") hC.2.1 [] x9 [] htb (fun z h => nomatch h) hcv9 (by rw [hct9]; decide) (by rw [hct9]; exact hC.1 _ x_cl13) (NXw.use hC.2.2.2.1 _ x_cast) hce hcv hcl ?_
    rw [hhp9]
    refine lv_astore_n (lv' := [(3, .ref q9), (0, .ref (ad 155)), (1, .int (iI p1)), (2, .ref ao)]) hx hb dL_row_11 rfl hl (by decide) rfl (fun ls hl => ?_)
    refine r_iconst hx hb dL_row_12 ?_
    refine r_iret (z := 1) hx hb hr hlk hw (OC τ ao g :: WX τ ad M1) (List.range (OC τ ao g :: WX τ ad M1).length) (pick_all _) (va_nd_range _) (by decide) ⟨M1, g, hR1, Or.inr ⟨rfl, hQ1, rfl⟩, rfl⟩ dL_row_13
  · obtain ⟨z, hz, e1, hB⟩ := hB
    obtain ⟨w1, ⟨M1, hR1, hQ1, rfl⟩, hw⟩ := g_behind hw hA hCm hRm (nd_of (nodup_shift _ _)) hdis ht hk hS hB
    rw [hp, e1]
    refine r_last (ws' := OC τ ao (up g 0 z) :: WX τ ad M1) hx hb hC hw 0 rfl (by decide) (by decide) (by decide) rfl dL_row_7 (fun H locs hw => ?_)
    refine lv_goto (tgt := 14) hx hb dL_row_8 (by decide) ?_
    refine r_iconst hx hb dL_row_14 ?_
    refine W.widen (k := 1) (n := 6) (by decide) (by decide) ?_
    exact r_iret (z := 0) hx hb hr hlk hw (OC τ ao (up g 0 z) :: WX τ ad M1) (List.range (OC τ ao (up g 0 z) :: WX τ ad M1).length) (pick_all _) (va_nd_range _) (by decide) ⟨M1, up g 0 z, hR1, Or.inl ⟨rfl, z, hz, hQ1, rfl⟩, rfl⟩ dL_row_15
end
section
/-! the machine's classes at the law's entry -/
theorem NXw.of {args : Array Value} {s : State} (hts : ∀ w ∈ lw_tbl, w.before args s = true) : NXw s := fun w hw => by
  have h1 := (List.mem_filter.mp hw).2
  have h2 := hts w (List.mem_filter.mp hw).1
  revert h1 h2
  cases w <;> intro h1 h2 <;> first | exact absurd h1 Bool.false_ne_true | exact va_Nw.of rfl h2 | (simp [isNest] at h1)
set_option maxRecDepth 100000 in
theorem K_init {args : Array Value} {s : State} (hts : ∀ w ∈ lw_tbl, w.before args s = true) : ∃ (D : va_G) (τ : Nat → ClassId), va_K D vwCl (ty5 τ) s ∧ NX s := by
  obtain ⟨c0, i0, h0⟩ := u_known (C := RJ0) (T := TJ0) (N := 4) hts (fun w h => lw_gt (iJ0 w h)) (hts _ (lw_gt it_J0))
  obtain ⟨c1, i1, h1⟩ := u_known (C := RX0) (T := TX0) (N := 3) hts (fun w h => lw_gt (iX0 w h)) (hts _ (lw_gt it_X0))
  obtain ⟨c2, i2, h2⟩ := u_known (C := RX1) (T := TX1) (N := 3) hts (fun w h => lw_gt (iX1 w h)) (hts _ (lw_gt it_X1))
  obtain ⟨c3, i3, h3⟩ := u_known (C := RX2) (T := TX2) (N := 6) hts (fun w h => lw_gt (iX2 w h)) (hts _ (lw_gt it_X2))
  obtain ⟨c4, i4, h4⟩ := u_known (C := RX3) (T := TX3) (N := 3) hts (fun w h => lw_gt (iX3 w h)) (hts _ (lw_gt it_X3))
  obtain ⟨c5, i5, h5⟩ := u_known (C := RX4) (T := TX4) (N := 2) hts (fun w h => lw_gt (iX4 w h)) (hts _ (lw_gt it_X4))
  obtain ⟨c6, i6, h6⟩ := u_known (C := RX5) (T := TX5) (N := 4) hts (fun w h => lw_gt (iX5 w h)) (hts _ (lw_gt it_X5))
  obtain ⟨c7, i7, h7⟩ := u_known (C := RX6) (T := TX6) (N := 11) hts (fun w h => lw_gt (iX6 w h)) (hts _ (lw_gt it_X6))
  obtain ⟨c8, i8, h8⟩ := u_known (C := RX7) (T := TX7) (N := 2) hts (fun w h => lw_gt (iX7 w h)) (hts _ (lw_gt it_X7))
  obtain ⟨c9, i9, h9⟩ := u_known (C := RX8) (T := TX8) (N := 4) hts (fun w h => lw_gt (iX8 w h)) (hts _ (lw_gt it_X8))
  obtain ⟨c10, i10, h10⟩ := u_known (C := RX9) (T := TX9) (N := 4) hts (fun w h => lw_gt (iX9 w h)) (hts _ (lw_gt it_X9))
  obtain ⟨c11, i11, h11⟩ := u_known (C := RX10) (T := TX10) (N := 6) hts (fun w h => lw_gt (iX10 w h)) (hts _ (lw_gt it_X10))
  obtain ⟨c12, i12, h12⟩ := u_known (C := RX11) (T := TX11) (N := 18) hts (fun w h => lw_gt (iX11 w h)) (hts _ (lw_gt it_X11))
  obtain ⟨c13, i13, h13⟩ := u_known (C := RX12) (T := TX12) (N := 53) hts (fun w h => lw_gt (iX12 w h)) (hts _ (lw_gt it_X12))
  obtain ⟨a0, k0, m0, e0, f0, g0⟩ := Cond.arrayClass_spec (hts _ (lw_gt ac_int))
  obtain ⟨a1, k1, m1, e1, f1, g1⟩ := Cond.arrayClass_spec (hts _ (lw_gt ac_long))
  obtain ⟨a2, k2, m2, e2, f2, g2⟩ := Cond.arrayClass_spec (hts _ (lw_gt ac_boolean))
  obtain ⟨m3, a3, k3, p3, q3, f3, g3, e3⟩ := Cond.arrayOver_spec (hts _ ao_S)
  obtain ⟨m4, a4, k4, p4, q4, f4, g4, e4⟩ := AOA_spec (va_AOA.of (hts _ ao_I))
  refine ⟨(fun k => ([c0, c1, c2, c3, c4, c5, c6, c7, c8, c9, c10, c11, c12, c13] : List ClassId).getD k c0, fun k => ([i0, i1, i2, i3, i4, i5, i6, i7, i8, i9, i10, i11, i12, i13] : List (Nat → Nat)).getD k i0), fun k => ([a0, a1, a2, a3, a4] : List ClassId).getD k a0, ⟨fun k q hq => ?_, fun k q hq => ?_⟩, NXw.of hts, va_AO.of (hts _ ao_S), va_AOA.of (hts _ ao_I)⟩
  · match k, hq with
    | 0, hq => cases hq; exact h0
    | 1, hq => cases hq; exact h1
    | 2, hq => cases hq; exact h2
    | 3, hq => cases hq; exact h3
    | 4, hq => cases hq; exact h4
    | 5, hq => cases hq; exact h5
    | 6, hq => cases hq; exact h6
    | 7, hq => cases hq; exact h7
    | 8, hq => cases hq; exact h8
    | 9, hq => cases hq; exact h9
    | 10, hq => cases hq; exact h10
    | 11, hq => cases hq; exact h11
    | 12, hq => cases hq; exact h12
    | 13, hq => cases hq; exact h13
    | k + 14, hq => simp [vwCl] at hq
  · match k, hq with
    | 0, hq => cases hq; exact ⟨fun n z => ⟨fun k h => (by cases h), k0, f0, m0, g0⟩, e0⟩
    | 1, hq => cases hq; exact ⟨fun n z => ⟨fun k h => (by cases h), k1, f1, m1, g1⟩, e1⟩
    | 2, hq => cases hq; exact ⟨fun n z => ⟨fun k h => (by cases h), k2, f2, m2, g2⟩, e2⟩
    | 3, hq => cases hq; exact ⟨fun n z => ⟨fun k h => (by cases h), k3, f3, m3, g3⟩, k3, m3, f3, g3, p3, e3⟩
    | 4, hq => cases hq; exact ⟨fun n z => ⟨fun k h => (by cases h), k4, f4, m4, g4⟩, e4⟩
    | k + 5, hq => simp [ty5] at hq
section RS
variable {p : Program} {l : Launch} {e : Env} {R : Room} {s : State} {m : MethodId} {args : Array Value} {below : List Frame} {meth : Method} {c : Code} {H : Heap} {locs : List Loc} {cells slots : Nat} {Q : State → Prop} {cc : ByteArray} {pc : Nat} {ls : Array Slot} {rest : List Value} {D : va_G} {A : Nat → Prop} {ws : va_W}
theorem r_sld (hx : p.tables.exec = Jvm.exec) (hb : c.code = cc) {b L : Nat} {xs : Nat → Int32} (hX : va_X b L xs s s.heap) (hbl : b < s.heap.size) (hbA : ¬ A b) (hw : wS D A s.heap ws H locs) {z v : Int} (h0 : 0 ≤ z) (h1 : z < (L : Int)) (hL : L ≤ 2147483647) (hv : xs z.toNat = iI v) (hd : decode cc pc = .ok (.iaload, 1)) (kk : W p l e R s m args below meth c H locs cells slots Q (F0 m (pc + 1) ls (.int (iI v) :: rest))) : W p l e R s m args below meth c H locs cells slots Q (F0 m pc ls (.int (iI z) :: .ref b :: rest)) := by
  refine va_sld hx hb hX hbl hbA hw.2.2 (iI_in h0 h1 hL) hd ?_
  rw [iI_clamp ⟨by omega, by omega⟩, hv]
  exact kk
theorem r_slen (hx : p.tables.exec = Jvm.exec) (hb : c.code = cc) {b L : Nat} {xs : Nat → Int32} (hX : va_X b L xs s s.heap) (hbl : b < s.heap.size) (hbA : ¬ A b) (hw : wS D A s.heap ws H locs) (hd : decode cc pc = .ok (.arraylength, 1)) (kk : W p l e R s m args below meth c H locs cells slots Q (F0 m (pc + 1) ls (.int (iI (L : Int)) :: rest))) : W p l e R s m args below meth c H locs cells slots Q (F0 m pc ls (.ref b :: rest)) := by
  refine va_slen hx hb hX hbl hbA hw.2.2 hd ?_
  rw [show Int32.ofNat L = iI (L : Int) from rfl]
  exact kk
end RS
section RCW
variable {p : Program} {l : Launch} {e : Env} {R : Room} {s : State} {m : MethodId} {args : Array Value} {below : List Frame} {meth : Method} {c : Code} {H : Heap} {locs : List Loc} {cells slots : Nat} {Q : State → Prop}
variable {cc : ByteArray} {pc : Nat} {ls : Array Slot} {rest st0 : List Value} {D : va_G} {A : Nat → Prop} {ws wc wr : va_W} {τ : Nat → ClassId} {own : String}
variable {y : MethodName} {b : ByteArray} {mL n lev index nL cells' slots' : Nat} {sA sV : Nat → Nat} {As : List Value} {hh : List (Nat × Nat × Nat × Nat)}
theorem g_cW {E : Int → va_W → Prop} (hx : p.tables.exec = Jvm.exec) (hb : c.code = cc) (hml : c.maxLocals = nL) (hC : cx D τ s m args own) (hA : ∀ q, s.heap.size ≤ q → A q) (hLS : LK A s s.heap sA sV) (hXX : XX A s) (hw : wS D A s.heap ws H locs) (hl : ls.size = nL) (M : Met l y (.codeWith y b mL (some .int) hh :: lw_good) (rmk lev 1 6) (xPc D τ sA sV wc H.size As) (gQi D E (va_A wc H.size)) 1 6 (va_A wc H.size)) (hg : ∀ w ∈ va_wsS own index y (Cond.codeWith y b mL (some .int) hh :: lw_good), w ∈ lw_good) (hd2 : y.cls ≠ "java/lang/invoke/MethodHandle" ∧ y.cls ≠ "java/lang/invoke/VarHandle" ∧ (parseMethodDescriptor y.desc).map (fun d => d.parameters.length) = some n) (isC isR : List Nat) (hCm : isC.map (fun i => ws[i]?) = wc.map some) (hRm : isR.map (fun i => ws[i]?) = wr.map some) (hnC : va_nd isC = true) (hnR : va_nd isR = true) (hdis : ∀ i ∈ isR, i ∉ isC) (hst : st0 = As.reverse ++ rest) (hn : As.length = n) (hcat : (rest.map fun v => v.category).sum ≤ 8) (hroom : lev + 1 ≤ R.frames ∧ 8 + (mL + 11) + 64 * lev ≤ R.locals) (hcs : cells + 1 ≤ R.cells ∧ slots + 6 ≤ R.slots) (hc2 : cells + 1 = cells') (hs2 : slots + 6 = slots') (hd : decode cc pc = .ok (.invokestatic index, 3))
    (kk : ∀ (z : Int) (w1 : va_W) (H : Heap) (locs : List Loc), iR z → E z w1 → wS D A s.heap (wr ++ w1) H locs → W p l e R s m args below meth c H locs cells' slots' Q (F0 m (pc + 3) ls (.int (iI z) :: rest))) : W p l e R s m args below meth c H locs cells slots Q (F0 m pc ls st0) := by
  have hF := va_free hw.2.1 hw.2.2 hA isC hCm
  refine va_calli (vx_runSW ⟨hx, hb, hml, hC.2.1, hC.1⟩ M (vx_cwSW n hC.1 (g_good (fun _ h => h) hg) rfl rfl rfl hd2 hroom) ⟨xPc_blind, x_pre rfl hC hA hLS hXX hw hCm hnC⟩ rfl hn hl hst (lv_room hcat) hd hcs) hw.2.2 (fun q _ h => hF q h) hF (fun r u t H1 locs1 ht hvm hp hB hsz hk1 hS => ?_)
  obtain ⟨z, hz, e1, hB⟩ := hB
  obtain ⟨w1, hE, h1⟩ := g_behind hw hA hCm hRm hnR hdis ht hk1 hS hB
  subst hc2
  subst hs2
  rw [hp, e1]
  exact kk z w1 H1 locs1 hz hE h1
end RCW

theorem g_law {idx mL : Nat} {y : MethodName} {b : ByteArray} {hh : List (Nat × Nat × Nat × Nat)} (h1 : Cond.methodLink RL idx y ∈ lw_good) (h2 : Cond.static y ∈ lw_good) (h3 : Cond.initialized y.cls ∈ lw_good) (h4 : Cond.codeWith y b mL (some .int) hh ∈ lw_good) : ∀ w ∈ va_wsS RL idx y (Cond.codeWith y b mL (some .int) hh :: lw_good), w ∈ lw_good := by
  unfold va_wsS
  exact mem1 h1 (mem1 h2 (mem1 h3 (mem1 h4 (fun _ h => h))))

set_option maxRecDepth 100000 in
theorem g_law_hearse : ∀ w ∈ va_wsS RL 57 yL_hearse (Cond.codeWith yL_hearse cL_hearse 5 (some .int) [(0, 10, 13, 13)] :: lw_good), w ∈ lw_good := g_law (lw_h5 159 rfl rfl) (lw_h5 160 rfl rfl) (lw_h1 0 rfl rfl) (lw_h5 161 rfl rfl)
set_option maxRecDepth 100000 in
theorem g_law_mourner : ∀ w ∈ va_wsS RL 63 yL_mourner (Cond.codeWith yL_mourner cL_mourner 5 (some .int) [(0, 10, 13, 13)] :: lw_good), w ∈ lw_good := g_law (lw_h5 239 rfl rfl) (lw_h6 0 rfl rfl) (lw_h1 0 rfl rfl) (lw_h6 1 rfl rfl)
set_option maxRecDepth 100000 in
theorem g_law_row : ∀ w ∈ va_wsS RL 200 yL_row (Cond.codeWith yL_row cL_row 4 (some .int) [(0, 8, 11, 13)] :: lw_good), w ∈ lw_good := g_law (lw_h6 9 rfl rfl) (lw_h6 10 rfl rfl) (lw_h1 0 rfl rfl) (lw_h6 11 rfl rfl)
theorem SX_of {D : va_G} {τ : Nat → ClassId} {s : State} {b : Addr} {k : Nat} {tx : String} (hts : ∀ w ∈ lw_tbl, w.before #[Value.ref b] s = true) (hK : va_K D vwCl (ty5 τ) s) (h : Cond.stringRef RX11 k tx ∈ lw_tbl) : SX k tx s := by
  have hcur : s.vm.findClass RX11 = some (D.1 12) := (hK.1 12 (RX11, TX11, 18) rfl).2.1
  obtain ⟨_, _, _, a, -, -, -, -, -, ha⟩ := Cond.stringRef_spec hcur (hts _ h)
  exact ⟨a, vk_R.of (hts _ h) ha⟩
set_option maxRecDepth 100000 in
theorem TX_of {A : Nat → Prop} {s : State} {b : Addr} (hts : ∀ w ∈ lw_tbl, w.before #[Value.ref b] s = true) (hgv : (Jvm.Cond.and given_1 narrow_1).before #[Value.ref b] s = true) (hA : ∀ a : Nat, a < s.heap.size → ¬ A a) : TX A s := by
  have hs := flat_of_before _ hgv
  exact ⟨vx_Zqof (hts _ (by decide +kernel)) (hts (Cond.initialized Bundle.tN) (List.mem_append_right _ (lw_m1 22 rfl))) (hs _ (by decide +kernel)) hA, vx_Zqof (hts _ (by decide +kernel)) (hts (Cond.initialized Bundle.tN) (List.mem_append_right _ (lw_m1 22 rfl))) (hs _ (by decide +kernel)) hA⟩
theorem str_one {A : Nat → Prop} {s : State} {b : Addr} {own tx : String} {k n : Nat} {bs : List Int} (hts : ∀ w ∈ lw_tbl, w.before #[Value.ref b] s = true) (hA : ∀ a : Nat, a < s.heap.size → ¬ A a) (hn : n < 2 ^ 31) (hl : bs.length = n) (hb : ∀ x ∈ bs, 0 ≤ x ∧ x < 128) (h100 : n ≤ 100) (h0 : Cond.stringRef own k tx ∈ lw_tbl)
    (h1 : (Cond.exactly (.string own k) "java/lang/String").before #[Value.ref b] s = true) (h2 : (Cond.eq (.field (.string own k) "java/lang/String" "coder" "B") (.int 0)).before #[Value.ref b] s = true) (h3 : (Cond.arrayOf (.field (.string own k) "java/lang/String" "value" "[B") .byte).before #[Value.ref b] s = true) (h4 : (Cond.eq (.length (.field (.string own k) "java/lang/String" "value" "[B")) (.int (Int32.ofNat n))).before #[Value.ref b] s = true)
    (h5 : ∀ j, j < n → (Cond.eq (.elem (.field (.string own k) "java/lang/String" "value" "[B") (.int (Int32.ofNat j))) (.int (iI (bs.getD j 0)))).before #[Value.ref b] s = true) : ∃ sa sv : Nat, vk_R own k tx sa s ∧ ST A s s.heap sa sv bs := by
  obtain ⟨adK, adV, hS, hev⟩ := vk_Sof (args := #[Value.ref b]) (s := s) (N := 1) (tm := fun _ => Term.string own k) (len := [n]) (byt := [bs.map iI]) (A := A)
    (fun i hi => by obtain rfl : i = 0 := by omega
                    exact hn) (fun i hi => h1) (fun i hi => h2) (fun i hi => h3)
    (fun i hi => by obtain rfl : i = 0 := by omega
                    exact h4)
    (fun i hi j hj => by obtain rfl : i = 0 := by omega
                         have hj : j < n := hj
                         have h6 := h5 j hj
                         have h7 : (bs.map iI).getD j 0 = iI (bs.getD j 0) := by
                           rw [List.getD_eq_getElem?_getD, List.getD_eq_getElem?_getD, List.getElem?_map]
                           rw [List.getElem?_eq_getElem (by omega)]
                           rfl
                         show (Cond.eq _ (.int ((bs.map iI).getD j 0))).before _ _ = true
                         rw [h7]
                         exact h6)
    (fun i j hi hj hij => (hij (by omega)).elim) hA
  have g := hS.1 0 (by decide)
  refine ⟨adK 0, adV 0, vk_R.of (hts _ h0) (hev 0 (by decide)), g.1, g.2.1, g.2.2.1, ?_, hb, by omega⟩
  have g4 := g.2.2.2
  obtain ⟨cell, c1, c2, c3, c4, c5, c6, c7⟩ := g4
  subst hl
  refine ⟨cell, c1, c2, c3, c4, c5, fun j hj => ?_, c7⟩
  rw [c6 j hj]
  show some (Value.int ((bs.map iI).getD j 0)) = some (Value.int (iI (bs.getD j 0)))
  rw [List.getD_eq_getElem?_getD, List.getElem?_map, List.getD_eq_getElem?_getD, List.getElem?_eq_getElem hj]
  rfl
set_option maxRecDepth 100000 in
theorem LK_of {A : Nat → Prop} {s : State} {b : Addr} (hts : ∀ w ∈ lw_tbl, w.before #[Value.ref b] s = true) (hgv : (Jvm.Cond.and given_1 narrow_1).before #[Value.ref b] s = true) (hA : ∀ a : Nat, a < s.heap.size → ¬ A a) : ∃ sA sV : Nat → Nat, LK A s s.heap sA sV := by
  have hs := flat_of_before _ hgv
  obtain ⟨a0, v0, r0, t0⟩ := str_one (own := RX5) (k := 79) (tx := "pgcwtim") (n := 7) (bs := [112, 103, 99, 119, 116, 105, 109]) hts hA (by decide) rfl (by decide) (by decide) (List.mem_of_getElem? (i := 643) rfl) (hs (Cond.exactly (.string RX5 79) "java/lang/String") (List.mem_of_getElem? (i := 25) rfl)) (hs (Cond.eq (.field (.string RX5 79) "java/lang/String" "coder" "B") (.int 0)) (List.mem_of_getElem? (i := 26) rfl)) (hs (Cond.arrayOf (.field (.string RX5 79) "java/lang/String" "value" "[B") .byte) (List.mem_of_getElem? (i := 27) rfl)) (hs (Cond.eq (.length (.field (.string RX5 79) "java/lang/String" "value" "[B")) (.int 7)) (List.mem_of_getElem? (i := 28) rfl)) (fun j hj => match j, hj with | 0, _ => hs (Cond.eq (.elem (.field (.string RX5 79) "java/lang/String" "value" "[B") (.int 0)) (.int 112)) (List.mem_of_getElem? (i := 29) rfl) | 1, _ => hs (Cond.eq (.elem (.field (.string RX5 79) "java/lang/String" "value" "[B") (.int 1)) (.int 103)) (List.mem_of_getElem? (i := 30) rfl) | 2, _ => hs (Cond.eq (.elem (.field (.string RX5 79) "java/lang/String" "value" "[B") (.int 2)) (.int 99)) (List.mem_of_getElem? (i := 31) rfl) | 3, _ => hs (Cond.eq (.elem (.field (.string RX5 79) "java/lang/String" "value" "[B") (.int 3)) (.int 119)) (List.mem_of_getElem? (i := 32) rfl) | 4, _ => hs (Cond.eq (.elem (.field (.string RX5 79) "java/lang/String" "value" "[B") (.int 4)) (.int 116)) (List.mem_of_getElem? (i := 33) rfl) | 5, _ => hs (Cond.eq (.elem (.field (.string RX5 79) "java/lang/String" "value" "[B") (.int 5)) (.int 105)) (List.mem_of_getElem? (i := 34) rfl) | 6, _ => hs (Cond.eq (.elem (.field (.string RX5 79) "java/lang/String" "value" "[B") (.int 6)) (.int 109)) (List.mem_of_getElem? (i := 35) rfl) | j + 7, h => absurd h (by omega))
  obtain ⟨a1, v1, r1, t1⟩ := str_one (own := RX12) (k := 180) (tx := ".c") (n := 2) (bs := [46, 99]) hts hA (by decide) rfl (by decide) (by decide) (List.mem_of_getElem? (i := 1485) rfl) (hs (Cond.exactly (.string RX12 180) "java/lang/String") (List.mem_of_getElem? (i := 176) rfl)) (hs (Cond.eq (.field (.string RX12 180) "java/lang/String" "coder" "B") (.int 0)) (List.mem_of_getElem? (i := 177) rfl)) (hs (Cond.arrayOf (.field (.string RX12 180) "java/lang/String" "value" "[B") .byte) (List.mem_of_getElem? (i := 178) rfl)) (hs (Cond.eq (.length (.field (.string RX12 180) "java/lang/String" "value" "[B")) (.int 2)) (List.mem_of_getElem? (i := 179) rfl)) (fun j hj => match j, hj with | 0, _ => hs (Cond.eq (.elem (.field (.string RX12 180) "java/lang/String" "value" "[B") (.int 0)) (.int 46)) (List.mem_of_getElem? (i := 180) rfl) | 1, _ => hs (Cond.eq (.elem (.field (.string RX12 180) "java/lang/String" "value" "[B") (.int 1)) (.int 99)) (List.mem_of_getElem? (i := 181) rfl) | j + 2, h => absurd h (by omega))
  obtain ⟨a2, v2, r2, t2⟩ := str_one (own := RX12) (k := 205) (tx := "abcdef") (n := 6) (bs := [97, 98, 99, 100, 101, 102]) hts hA (by decide) rfl (by decide) (by decide) (List.mem_of_getElem? (i := 1564) rfl) (hs (Cond.exactly (.string RX12 205) "java/lang/String") (List.mem_of_getElem? (i := 188) rfl)) (hs (Cond.eq (.field (.string RX12 205) "java/lang/String" "coder" "B") (.int 0)) (List.mem_of_getElem? (i := 189) rfl)) (hs (Cond.arrayOf (.field (.string RX12 205) "java/lang/String" "value" "[B") .byte) (List.mem_of_getElem? (i := 190) rfl)) (hs (Cond.eq (.length (.field (.string RX12 205) "java/lang/String" "value" "[B")) (.int 6)) (List.mem_of_getElem? (i := 191) rfl)) (fun j hj => match j, hj with | 0, _ => hs (Cond.eq (.elem (.field (.string RX12 205) "java/lang/String" "value" "[B") (.int 0)) (.int 97)) (List.mem_of_getElem? (i := 192) rfl) | 1, _ => hs (Cond.eq (.elem (.field (.string RX12 205) "java/lang/String" "value" "[B") (.int 1)) (.int 98)) (List.mem_of_getElem? (i := 193) rfl) | 2, _ => hs (Cond.eq (.elem (.field (.string RX12 205) "java/lang/String" "value" "[B") (.int 2)) (.int 99)) (List.mem_of_getElem? (i := 194) rfl) | 3, _ => hs (Cond.eq (.elem (.field (.string RX12 205) "java/lang/String" "value" "[B") (.int 3)) (.int 100)) (List.mem_of_getElem? (i := 195) rfl) | 4, _ => hs (Cond.eq (.elem (.field (.string RX12 205) "java/lang/String" "value" "[B") (.int 4)) (.int 101)) (List.mem_of_getElem? (i := 196) rfl) | 5, _ => hs (Cond.eq (.elem (.field (.string RX12 205) "java/lang/String" "value" "[B") (.int 5)) (.int 102)) (List.mem_of_getElem? (i := 197) rfl) | j + 6, h => absurd h (by omega))
  obtain ⟨a3, v3, r3, t3⟩ := str_one (own := RJ1) (k := 151) (tx := "") (n := 0) (bs := []) hts hA (by decide) rfl (by decide) (by decide) (List.mem_of_getElem? (i := 1573) rfl) (hs (Cond.exactly (.string RJ1 151) "java/lang/String") (List.mem_of_getElem? (i := 205) rfl)) (hs (Cond.eq (.field (.string RJ1 151) "java/lang/String" "coder" "B") (.int 0)) (List.mem_of_getElem? (i := 206) rfl)) (hs (Cond.arrayOf (.field (.string RJ1 151) "java/lang/String" "value" "[B") .byte) (List.mem_of_getElem? (i := 207) rfl)) (hs (Cond.eq (.length (.field (.string RJ1 151) "java/lang/String" "value" "[B")) (.int 0)) (List.mem_of_getElem? (i := 208) rfl)) (fun j hj => absurd hj (by omega))
  obtain ⟨a4, v4, r4, t4⟩ := str_one (own := RX12) (k := 241) (tx := "pgcwtim") (n := 7) (bs := [112, 103, 99, 119, 116, 105, 109]) hts hA (by decide) rfl (by decide) (by decide) (List.mem_of_getElem? (i := 1663) rfl) (hs (Cond.exactly (.string RX12 241) "java/lang/String") (List.mem_of_getElem? (i := 230) rfl)) (hs (Cond.eq (.field (.string RX12 241) "java/lang/String" "coder" "B") (.int 0)) (List.mem_of_getElem? (i := 231) rfl)) (hs (Cond.arrayOf (.field (.string RX12 241) "java/lang/String" "value" "[B") .byte) (List.mem_of_getElem? (i := 232) rfl)) (hs (Cond.eq (.length (.field (.string RX12 241) "java/lang/String" "value" "[B")) (.int 7)) (List.mem_of_getElem? (i := 233) rfl)) (fun j hj => match j, hj with | 0, _ => hs (Cond.eq (.elem (.field (.string RX12 241) "java/lang/String" "value" "[B") (.int 0)) (.int 112)) (List.mem_of_getElem? (i := 234) rfl) | 1, _ => hs (Cond.eq (.elem (.field (.string RX12 241) "java/lang/String" "value" "[B") (.int 1)) (.int 103)) (List.mem_of_getElem? (i := 235) rfl) | 2, _ => hs (Cond.eq (.elem (.field (.string RX12 241) "java/lang/String" "value" "[B") (.int 2)) (.int 99)) (List.mem_of_getElem? (i := 236) rfl) | 3, _ => hs (Cond.eq (.elem (.field (.string RX12 241) "java/lang/String" "value" "[B") (.int 3)) (.int 119)) (List.mem_of_getElem? (i := 237) rfl) | 4, _ => hs (Cond.eq (.elem (.field (.string RX12 241) "java/lang/String" "value" "[B") (.int 4)) (.int 116)) (List.mem_of_getElem? (i := 238) rfl) | 5, _ => hs (Cond.eq (.elem (.field (.string RX12 241) "java/lang/String" "value" "[B") (.int 5)) (.int 105)) (List.mem_of_getElem? (i := 239) rfl) | 6, _ => hs (Cond.eq (.elem (.field (.string RX12 241) "java/lang/String" "value" "[B") (.int 6)) (.int 109)) (List.mem_of_getElem? (i := 240) rfl) | j + 7, h => absurd h (by omega))
  obtain ⟨a5, v5, r5, t5⟩ := str_one (own := RX12) (k := 246) (tx := "<>=") (n := 3) (bs := [60, 62, 61]) hts hA (by decide) rfl (by decide) (by decide) (List.mem_of_getElem? (i := 1664) rfl) (hs (Cond.exactly (.string RX12 246) "java/lang/String") (List.mem_of_getElem? (i := 251) rfl)) (hs (Cond.eq (.field (.string RX12 246) "java/lang/String" "coder" "B") (.int 0)) (List.mem_of_getElem? (i := 252) rfl)) (hs (Cond.arrayOf (.field (.string RX12 246) "java/lang/String" "value" "[B") .byte) (List.mem_of_getElem? (i := 253) rfl)) (hs (Cond.eq (.length (.field (.string RX12 246) "java/lang/String" "value" "[B")) (.int 3)) (List.mem_of_getElem? (i := 254) rfl)) (fun j hj => match j, hj with | 0, _ => hs (Cond.eq (.elem (.field (.string RX12 246) "java/lang/String" "value" "[B") (.int 0)) (.int 60)) (List.mem_of_getElem? (i := 255) rfl) | 1, _ => hs (Cond.eq (.elem (.field (.string RX12 246) "java/lang/String" "value" "[B") (.int 1)) (.int 62)) (List.mem_of_getElem? (i := 256) rfl) | 2, _ => hs (Cond.eq (.elem (.field (.string RX12 246) "java/lang/String" "value" "[B") (.int 2)) (.int 61)) (List.mem_of_getElem? (i := 257) rfl) | j + 3, h => absurd h (by omega))
  obtain ⟨a6, v6, r6, t6⟩ := str_one (own := RX12) (k := 248) (tx := "+-") (n := 2) (bs := [43, 45]) hts hA (by decide) rfl (by decide) (by decide) (List.mem_of_getElem? (i := 1665) rfl) (hs (Cond.exactly (.string RX12 248) "java/lang/String") (List.mem_of_getElem? (i := 269) rfl)) (hs (Cond.eq (.field (.string RX12 248) "java/lang/String" "coder" "B") (.int 0)) (List.mem_of_getElem? (i := 270) rfl)) (hs (Cond.arrayOf (.field (.string RX12 248) "java/lang/String" "value" "[B") .byte) (List.mem_of_getElem? (i := 271) rfl)) (hs (Cond.eq (.length (.field (.string RX12 248) "java/lang/String" "value" "[B")) (.int 2)) (List.mem_of_getElem? (i := 272) rfl)) (fun j hj => match j, hj with | 0, _ => hs (Cond.eq (.elem (.field (.string RX12 248) "java/lang/String" "value" "[B") (.int 0)) (.int 43)) (List.mem_of_getElem? (i := 273) rfl) | 1, _ => hs (Cond.eq (.elem (.field (.string RX12 248) "java/lang/String" "value" "[B") (.int 1)) (.int 45)) (List.mem_of_getElem? (i := 274) rfl) | j + 2, h => absurd h (by omega))
  obtain ⟨a7, v7, r7, t7⟩ := str_one (own := RX12) (k := 250) (tx := "*/") (n := 2) (bs := [42, 47]) hts hA (by decide) rfl (by decide) (by decide) (List.mem_of_getElem? (i := 1666) rfl) (hs (Cond.exactly (.string RX12 250) "java/lang/String") (List.mem_of_getElem? (i := 287) rfl)) (hs (Cond.eq (.field (.string RX12 250) "java/lang/String" "coder" "B") (.int 0)) (List.mem_of_getElem? (i := 288) rfl)) (hs (Cond.arrayOf (.field (.string RX12 250) "java/lang/String" "value" "[B") .byte) (List.mem_of_getElem? (i := 289) rfl)) (hs (Cond.eq (.length (.field (.string RX12 250) "java/lang/String" "value" "[B")) (.int 2)) (List.mem_of_getElem? (i := 290) rfl)) (fun j hj => match j, hj with | 0, _ => hs (Cond.eq (.elem (.field (.string RX12 250) "java/lang/String" "value" "[B") (.int 0)) (.int 42)) (List.mem_of_getElem? (i := 291) rfl) | 1, _ => hs (Cond.eq (.elem (.field (.string RX12 250) "java/lang/String" "value" "[B") (.int 1)) (.int 47)) (List.mem_of_getElem? (i := 292) rfl) | j + 2, h => absurd h (by omega))
  obtain ⟨a8, v8, r8, t8⟩ := str_one (own := RX12) (k := 377) (tx := "ntpbx") (n := 5) (bs := [110, 116, 112, 98, 120]) hts hA (by decide) rfl (by decide) (by decide) (List.mem_of_getElem? (i := 1822) rfl) (hs (Cond.exactly (.string RX12 377) "java/lang/String") (List.mem_of_getElem? (i := 306) rfl)) (hs (Cond.eq (.field (.string RX12 377) "java/lang/String" "coder" "B") (.int 0)) (List.mem_of_getElem? (i := 307) rfl)) (hs (Cond.arrayOf (.field (.string RX12 377) "java/lang/String" "value" "[B") .byte) (List.mem_of_getElem? (i := 308) rfl)) (hs (Cond.eq (.length (.field (.string RX12 377) "java/lang/String" "value" "[B")) (.int 5)) (List.mem_of_getElem? (i := 309) rfl)) (fun j hj => match j, hj with | 0, _ => hs (Cond.eq (.elem (.field (.string RX12 377) "java/lang/String" "value" "[B") (.int 0)) (.int 110)) (List.mem_of_getElem? (i := 310) rfl) | 1, _ => hs (Cond.eq (.elem (.field (.string RX12 377) "java/lang/String" "value" "[B") (.int 1)) (.int 116)) (List.mem_of_getElem? (i := 311) rfl) | 2, _ => hs (Cond.eq (.elem (.field (.string RX12 377) "java/lang/String" "value" "[B") (.int 2)) (.int 112)) (List.mem_of_getElem? (i := 312) rfl) | 3, _ => hs (Cond.eq (.elem (.field (.string RX12 377) "java/lang/String" "value" "[B") (.int 3)) (.int 98)) (List.mem_of_getElem? (i := 313) rfl) | 4, _ => hs (Cond.eq (.elem (.field (.string RX12 377) "java/lang/String" "value" "[B") (.int 4)) (.int 120)) (List.mem_of_getElem? (i := 314) rfl) | j + 5, h => absurd h (by omega))
  refine ⟨fun i => ([a0, a1, a2, a3, a4, a5, a6, a7, a8] : List Nat).getD i 0, fun i => ([v0, v1, v2, v3, v4, v5, v6, v7, v8] : List Nat).getD i 0, fun i hi => ?_, va_Zof (hts (Cond.laysStatic RJ0 "COMPACT_STRINGS" "Z") (List.mem_append_right _ (lw_m3 95 rfl))) (hts (Cond.initialized RJ0) (List.mem_append_right _ (lw_m1 15 rfl))) (va_eqt (hs (Cond.eq (.static "java/lang/String" "COMPACT_STRINGS" "Z") (.int 1)) (List.mem_of_getElem? (i := 4) rfl))) hA, (vx_Zqof (hts (Cond.laysStatic RJ3 "SIOOBE_FORMATTER" "Ljava/util/function/BiFunction;") (List.mem_append_right _ (lw_m3 136 rfl))) (hts (Cond.initialized RJ3) (List.mem_append_right _ (lw_m1 17 rfl))) (hs _ (by decide +kernel)) hA).1⟩
  match i, hi with
  | 0, _ => exact ⟨r0, t0⟩
  | 1, _ => exact ⟨r1, t1⟩
  | 2, _ => exact ⟨r2, t2⟩
  | 3, _ => exact ⟨r3, t3⟩
  | 4, _ => exact ⟨r4, t4⟩
  | 5, _ => exact ⟨r5, t5⟩
  | 6, _ => exact ⟨r6, t6⟩
  | 7, _ => exact ⟨r7, t7⟩
  | 8, _ => exact ⟨r8, t8⟩
  | i + 9, h => omega
set_option maxRecDepth 100000 in
theorem XX_of {D : va_G} {τ : Nat → ClassId} {A : Nat → Prop} {s : State} {b : Addr} (hts : ∀ w ∈ lw_tbl, w.before #[Value.ref b] s = true) (hgv : (Jvm.Cond.and given_1 narrow_1).before #[Value.ref b] s = true) (hK : va_K D vwCl (ty5 τ) s) (hA : ∀ a : Nat, a < s.heap.size → ¬ A a) : XX A s :=
  ⟨TX_of hts hgv hA, SX_of hts hK (List.mem_of_getElem? (i := 1248) rfl), SX_of hts hK (List.mem_of_getElem? (i := 1280) rfl), SX_of hts hK (List.mem_of_getElem? (i := 1288) rfl), SX_of hts hK (List.mem_of_getElem? (i := 1290) rfl), SX_of hts hK (List.mem_of_getElem? (i := 1298) rfl)⟩
end
section
/-! THE CLAIM OUT OF ONE WALK OF THE LAW'S BODY. Your part is whole_start (and what it stands on); all else here is the same for every law, but numbers. -/
def R_law : String := "BehindAnotherHearseLaw"
def lw_P (b : Addr) (xs : List Int32) (args : Array Value) (s : State) : Prop := args = #[.ref b] ∧ s.IntsAt b xs ∧ xs.length ≤ 2560 ∧ (Jvm.Cond.and given_1 narrow_1).before args s = true
def lw_Q (_ : Array Value) (s : State) (o : Outcome) (t : State) : Prop := o = .returned (some (.int 1)) ∧ Framed s o t [] 601024 7293034
def lw_Z (below : List Frame) (a : Array Value) (s : State) : State → Prop := fun t => ∃ o, t.status = .running ∧ Ended t below o ∧ lw_Q a s o t
/-- the law's own end, with 1 on the stack, nothing written that was there before, its room as the claim has it -/
theorem lw_ret {p : Program} {l : Launch} {e : Env} {s : State} {m : MethodId} {below : List Frame} {meth : Method} {c : Code} {b : Nat} (hx : p.tables.exec = Jvm.exec) (hb : c.code = code) (hr : meth.sig.returnType = ret) (hlocks : meth.locks = false) {pc : Nat} {H : Heap} {ls : Array Slot} (hdg : decode code pc = .ok (.ireturn, 1)) : W p l e room_1 s m #[Value.ref b] below meth c H [] 601024 7293034 (lw_Z below #[Value.ref b] s) (F0 m pc ls [.int 1]) := by
  intro T hT X
  obtain ⟨fs, hret, hrun, hended, hW, hframe⟩ := X.leave (v := some (.int 1)) (hlocks := hlocks) (fun h => by rw [hr] at h; cases h)
  have hmeth' : T.vm.method? m = some meth := X.method'
  refine ⟨T.setFrames fs, ?_, .returned (some (.int 1)), hrun, hended, rfl, ⟨_, rfl⟩, hW, hframe⟩
  jvm_step X.here [X.here.top, hx, hb, hdg, hmeth', hr, ret, narrow_b1]
  (try refine ⟨rfl, ?_⟩); (try refine ⟨rfl, ?_⟩)
  first | (intro acts; rw [hret _ acts rfl rfl rfl]) | rw [hret _ _ rfl rfl rfl]
  exact Steps.refl _
/-- what holds at the law's entry: the machine, the code, the tables' words (any of lw_tbl by 'hts w (by decide +kernel)'), the script of L ints xs at the cell b, what the Statement gives of the start (any of its parts by flat_of_before) -/
def lw_At (p : Program) (s : State) (m : MethodId) (meth : Method) (c : Code) (b L : Nat) (xs : Nat → Int32) : Prop :=
  p.tables.exec = Jvm.exec ∧ c.code = code ∧ meth.sig.returnType = ret ∧ c.maxLocals = 8 ∧ s.vm.findClass R_law = some m.cls ∧ (∀ w ∈ lw_tbl, w.before #[Value.ref b] s = true) ∧ va_X b L xs s s.heap ∧ b < s.heap.size ∧ meth.locks = false ∧ (Jvm.Cond.and given_1 narrow_1).before #[Value.ref b] s = true
end
section
/-! SPECS of the class: the small methods. Safety: no machine throw, invariants kept. -/
theorem up2_a (M : Mem) (k : Nat) (j v : Int) (k' : Nat) (j' : Int) : up2 M k j v k' j' = if k' = k then (if j' = j then v else M k' j') else M k' j' := by
  unfold up2 up
  by_cases h : k' = k
  · subst h; simp
  · simp [h]
theorem up2_n {M : Mem} {k : Nat} {j v : Int} {k' : Nat} (h : k' ≠ k) : up2 M k j v k' = M k' := by
  unfold up2
  rw [if_neg h]
theorem up2_s (M : Mem) (k : Nat) (j v : Int) : up2 M k j v k j = v := by unfold up2 up; simp
theorem up2_j {M : Mem} {k : Nat} {j v : Int} {j' : Int} (h : j' ≠ j) : up2 M k j v k j' = M k j' := by unfold up2 up; simp [h]
theorem cp2_n {M : Mem} {a b : Nat} {n : Int} {k : Nat} (h : k ≠ b) : cp2 M a b n k = M k := by unfold cp2; rw [if_neg h]
theorem cp2_s {M : Mem} {a b : Nat} {n : Int} {j : Int} (h0 : 0 ≤ j) (h1 : j < n) : cp2 M a b n b j = M a j := by unfold cp2 cpy; rw [if_pos rfl, if_pos ⟨h0, h1⟩]
/-- rows outside P are as before -/
def Fr (P : Nat → Prop) (M M' : Mem) : Prop := ∀ i, ¬ P i → M' i = M i
theorem Fr.rf {P : Nat → Prop} {M : Mem} : Fr P M M := fun _ _ => rfl
theorem Fr.tr {P : Nat → Prop} {M M1 M2 : Mem} (h : Fr P M M1) (h2 : Fr P M1 M2) : Fr P M M2 := fun i hi => (h2 i hi).trans (h i hi)
theorem Fr.mono {P P' : Nat → Prop} {M M' : Mem} (h : Fr P M M') (hP : ∀ i, P i → P' i) : Fr P' M M' := fun i hi => h i (fun q => hi (hP i q))
theorem Fr.up {P : Nat → Prop} {M M' : Mem} (h : Fr P M M') {k : Nat} {j v : Int} (hk : P k) : Fr P M (up2 M' k j v) := fun i hi => by
  rw [up2_n (fun q => hi (by rw [q]; exact hk))]
  exact h i hi
theorem Fr.cp {P : Nat → Prop} {M M' : Mem} (h : Fr P M M') {a b : Nat} {n : Int} (hk : P b) : Fr P M (cp2 M' a b n) := fun i hi => by
  rw [cp2_n (fun q => hi (by rw [q]; exact hk))]
  exact h i hi
-- bits
theorem oI_R (a b : Int) : iR (oI a b) := toInt_R _
theorem aI_255 (a : Int) : 0 ≤ aI a 255 ∧ aI a 255 ≤ 255 := by
  obtain ⟨j, hj, e⟩ := pk_andE (iI a) (m := 255) 8 (by decide)
  have h : aI a 255 = (nI j).toInt := by
    unfold aI
    rw [show iI 255 = (255 : Int32) from rfl, ← e]
  rw [h]
  have h2 : (nI j).toInt = j := iI_toInt (z := (j : Int)) ⟨by omega, by omega⟩
  rw [h2]
  omega
def BX (k : Nat) (j v : Int) : Prop := if k = 0 then True else if k < 155 then (if (k - 1) % 7 = 0 then (if j = 6 then 0 ≤ v ∧ v ≤ 6 else if j = 7 then 0 ≤ v ∧ v ≤ 8 else True) else if (k - 1) % 7 = 1 then -1 ≤ v ∧ v ≤ 29 else if (k - 1) % 7 = 3 then -1 ≤ v ∧ v ≤ 29 else if (k - 1) % 7 = 4 then 0 ≤ v ∧ v ≤ 5 else if (k - 1) % 7 = 5 then -1 ≤ v ∧ v ≤ 5 else True) else if k = 156 then (if j = 1 then 0 ≤ v ∧ v ≤ 80 else if j = 2 then 0 ≤ v ∧ v ≤ 80 else if j = 3 then 0 ≤ v ∧ v ≤ 80 else True) else if k = 157 then 0 ≤ v ∧ v ≤ 255 else if k = 158 then (if j = 1 then 4 ≤ v ∧ v ≤ 30 else if j = 3 then 0 ≤ v ∧ v ≤ 20 else True) else if k = 163 then (if j = 1 then 0 ≤ v ∧ v ≤ 14 else if j = 2 then 0 ≤ v ∧ v ≤ 15 else True) else if k = 167 then (if j = 1 then 0 ≤ v ∧ v ≤ 8 else True) else if k = 168 then (if j = 1 then 0 ≤ v ∧ v ≤ 30 else True) else if k = 179 then (if j = 2 then 0 ≤ v ∧ v ≤ 6 else True) else if k = 180 then 0 ≤ v ∧ v ≤ 29 else if k = 182 then (if j = 2 then 0 ≤ v ∧ v ≤ 8 else True) else if k = 185 then (if j = 1 then 0 ≤ v ∧ v ≤ 40 else if j = 2 then 0 ≤ v ∧ v ≤ 4 else True) else if 170 ≤ k ∧ k ≤ 178 then 0 ≤ v ∧ v ≤ 178 - (k : Int) else if k = 187 ∨ k = 192 then (if j = 4 then 0 ≤ v ∧ v ≤ 40 else True) else True
theorem bx_c156_1 {v : Int} : BX 156 1 v ↔ (0 ≤ v ∧ v ≤ 80) := by simp [BX]
theorem bx_c156_2 {v : Int} : BX 156 2 v ↔ (0 ≤ v ∧ v ≤ 80) := by simp [BX]
theorem bx_c156_3 {v : Int} : BX 156 3 v ↔ (0 ≤ v ∧ v ≤ 80) := by simp [BX]
theorem bx_c157 {j v : Int} : BX 157 j v ↔ (0 ≤ v ∧ v ≤ 255) := by simp [BX]
theorem bx_c158_1 {v : Int} : BX 158 1 v ↔ (4 ≤ v ∧ v ≤ 30) := by simp [BX]
theorem bx_c158_3 {v : Int} : BX 158 3 v ↔ (0 ≤ v ∧ v ≤ 20) := by simp [BX]
theorem bx_c163_1 {v : Int} : BX 163 1 v ↔ (0 ≤ v ∧ v ≤ 14) := by simp [BX]
theorem bx_c163_2 {v : Int} : BX 163 2 v ↔ (0 ≤ v ∧ v ≤ 15) := by simp [BX]
theorem bx_c167_1 {v : Int} : BX 167 1 v ↔ (0 ≤ v ∧ v ≤ 8) := by simp [BX]
theorem bx_c168_1 {v : Int} : BX 168 1 v ↔ (0 ≤ v ∧ v ≤ 30) := by simp [BX]
theorem bx_c179_2 {v : Int} : BX 179 2 v ↔ (0 ≤ v ∧ v ≤ 6) := by simp [BX]
theorem bx_c180 {j v : Int} : BX 180 j v ↔ (0 ≤ v ∧ v ≤ 29) := by simp [BX]
theorem bx_c182_2 {v : Int} : BX 182 2 v ↔ (0 ≤ v ∧ v ≤ 8) := by simp [BX]
theorem bx_c185_1 {v : Int} : BX 185 1 v ↔ (0 ≤ v ∧ v ≤ 40) := by simp [BX]
theorem bx_c185_2 {v : Int} : BX 185 2 v ↔ (0 ≤ v ∧ v ≤ 4) := by simp [BX]
theorem bx_s0_6 {k : Nat} (h : isS k) {v : Int} : BX k 6 v ↔ (0 ≤ v ∧ v ≤ 6) := by have h2 : 0 < k ∧ k < 155 ∧ (k - 1) % 7 = 0 := h; unfold BX; rw [if_neg (by omega), if_pos (by omega), if_pos (by omega)]; simp
theorem bx_s0_7 {k : Nat} (h : isS k) {v : Int} : BX k 7 v ↔ (0 ≤ v ∧ v ≤ 8) := by have h2 : 0 < k ∧ k < 155 ∧ (k - 1) % 7 = 0 := h; unfold BX; rw [if_neg (by omega), if_pos (by omega), if_pos (by omega)]; simp
theorem bx_sf0 {k : Nat} (h : isS k) {j v : Int} (h6 : j ≠ 6) (h7 : j ≠ 7) : BX k j v := by have h2 : 0 < k ∧ k < 155 ∧ (k - 1) % 7 = 0 := h; unfold BX; rw [if_neg (by omega), if_pos (by omega), if_pos (by omega), if_neg h6, if_neg h7]; trivial
theorem bx_s1 {k : Nat} (h : isS k) {j v : Int} : BX (k + 1) j v ↔ (-1 ≤ v ∧ v ≤ 29) := by have h2 : 0 < k ∧ k < 155 ∧ (k - 1) % 7 = 0 := h; unfold BX; rw [if_neg (by omega), if_pos (by omega), if_neg (by omega), if_pos (by omega)]
theorem bx_sf2 {k : Nat} (h : isS k) {j v : Int} : BX (k + 2) j v := by have h2 : 0 < k ∧ k < 155 ∧ (k - 1) % 7 = 0 := h; unfold BX; rw [if_neg (by omega), if_pos (by omega), if_neg (by omega), if_neg (by omega), if_neg (by omega), if_neg (by omega), if_neg (by omega)]; trivial
theorem bx_s3 {k : Nat} (h : isS k) {j v : Int} : BX (k + 3) j v ↔ (-1 ≤ v ∧ v ≤ 29) := by have h2 : 0 < k ∧ k < 155 ∧ (k - 1) % 7 = 0 := h; unfold BX; rw [if_neg (by omega), if_pos (by omega), if_neg (by omega), if_neg (by omega), if_pos (by omega)]
theorem bx_s4 {k : Nat} (h : isS k) {j v : Int} : BX (k + 4) j v ↔ (0 ≤ v ∧ v ≤ 5) := by have h2 : 0 < k ∧ k < 155 ∧ (k - 1) % 7 = 0 := h; unfold BX; rw [if_neg (by omega), if_pos (by omega), if_neg (by omega), if_neg (by omega), if_neg (by omega), if_pos (by omega)]
theorem bx_s5 {k : Nat} (h : isS k) {j v : Int} : BX (k + 5) j v ↔ (-1 ≤ v ∧ v ≤ 5) := by have h2 : 0 < k ∧ k < 155 ∧ (k - 1) % 7 = 0 := h; unfold BX; rw [if_neg (by omega), if_pos (by omega), if_neg (by omega), if_neg (by omega), if_neg (by omega), if_neg (by omega), if_pos (by omega)]
theorem bx_sf6 {k : Nat} (h : isS k) {j v : Int} : BX (k + 6) j v := by have h2 : 0 < k ∧ k < 155 ∧ (k - 1) % 7 = 0 := h; unfold BX; rw [if_neg (by omega), if_pos (by omega), if_neg (by omega), if_neg (by omega), if_neg (by omega), if_neg (by omega), if_neg (by omega)]; trivial
theorem bx_l4 {k : Nat} (h : isL k) {v : Int} : BX k 4 v ↔ (0 ≤ v ∧ v ≤ 40) := by rcases h with rfl | rfl <;> simp [BX]
theorem bx_lf0 {k : Nat} (h : isL k) {j v : Int} (h4 : j ≠ 4) : BX k j v := by rcases h with rfl | rfl <;> simp [BX, h4]
theorem bx_lf1 {k : Nat} (h : isL k) {j v : Int} : BX (k + 1) j v := by rcases h with rfl | rfl <;> simp [BX]
theorem bx_lf2 {k : Nat} (h : isL k) {j v : Int} : BX (k + 2) j v := by rcases h with rfl | rfl <;> simp [BX]
theorem bx_lf3 {k : Nat} (h : isL k) {j v : Int} : BX (k + 3) j v := by rcases h with rfl | rfl <;> simp [BX]
theorem bx_lf4 {k : Nat} (h : isL k) {j v : Int} : BX (k + 4) j v := by rcases h with rfl | rfl <;> simp [BX]
theorem bx_sh {e : Int} (h0 : 0 ≤ e) (h1 : e < 9) {j v : Int} : BX (170 + e.toNat) j v ↔ (0 ≤ v ∧ v ≤ 8 - e) := by
  unfold BX
  rw [if_neg (by omega), if_neg (by omega), if_neg (by omega), if_neg (by omega), if_neg (by omega), if_neg (by omega), if_neg (by omega), if_neg (by omega), if_neg (by omega), if_neg (by omega), if_neg (by omega), if_neg (by omega), if_pos (by omega)]
  have : ((170 + e.toNat : Nat) : Int) = 170 + e := by omega
  omega
abbrev nSp (k : Nat) : Prop := k ≠ 155 ∧ k ≠ 188 ∧ k ≠ 189 ∧ k ≠ 193 ∧ k ≠ 194
theorem isS.nsp {k : Nat} (h : isS k) (r : Nat) (hr : r < 7) : nSp (k + r) := by have h2 : 0 < k ∧ k < 155 ∧ (k - 1) % 7 = 0 := h; exact ⟨by omega, by omega, by omega, by omega, by omega⟩
theorem isL.nsp0 {k : Nat} (h : isL k) : nSp k := by rcases h with rfl | rfl <;> decide
theorem isL.nsp3 {k : Nat} (h : isL k) : nSp (k + 3) := by rcases h with rfl | rfl <;> decide
theorem isL.nsp4 {k : Nat} (h : isL k) : nSp (k + 4) := by rcases h with rfl | rfl <;> decide
theorem sh_nsp {e : Int} (h0 : 0 ≤ e) (h1 : e < 9) : nSp (170 + e.toNat) := ⟨by omega, by omega, by omega, by omega, by omega⟩
/-- the class's state is in its boxes -/
def IX (M : Mem) : Prop := (∀ k j, BX k j (M k j)) ∧ (M 155 16 = 187 ∧ M 155 17 = 192 ∨ M 155 16 = 192 ∧ M 155 17 = 187) ∧ ∀ k j, isL k → M (k + 1) j = 301 → 0 ≤ M (k + 2) j ∧ M (k + 2) j ≤ 6
theorem IX.bx {M : Mem} (h : IX M) (k : Nat) (j : Int) : BX k j (M k j) := h.1 k j
theorem IX.l16 {M : Mem} (h : IX M) : isL (M 155 16).toNat := by rcases h.2.1 with q | q <;> rw [q.1] <;> decide
theorem IX.l17 {M : Mem} (h : IX M) : isL (M 155 17).toNat := by rcases h.2.1 with q | q <;> rw [q.2] <;> decide
theorem IX.lt {M : Mem} (h : IX M) {k : Nat} (hk : isL k) {j : Int} (he : M (k + 1) j = 301) : 0 ≤ M (k + 2) j ∧ M (k + 2) j ≤ 6 := h.2.2 k j hk he
theorem BX.up {M : Mem} (h : ∀ k j, BX k j (M k j)) {k : Nat} {j v : Int} (hv : BX k j v) : ∀ k' j', BX k' j' (up2 M k j v k' j') := by
  intro k' j'
  rw [up2_a]
  by_cases c : k' = k
  · rw [if_pos c]
    by_cases c2 : j' = j
    · rw [if_pos c2, c, c2]; exact hv
    · rw [if_neg c2]; exact h k' j'
  · rw [if_neg c]; exact h k' j'
theorem BX.cp {M : Mem} (h : ∀ k j, BX k j (M k j)) {a b : Nat} {n : Int} (hv : ∀ j v, BX a j v → BX b j v) : ∀ k' j', BX k' j' (cp2 M a b n k' j') := by
  intro k' j'
  by_cases c : k' = b
  · subst c
    unfold cp2 cpy
    rw [if_pos rfl]
    by_cases c2 : 0 ≤ j' ∧ j' < n
    · rw [if_pos c2]; exact hv _ _ (h a j')
    · rw [if_neg c2]; exact h _ j'
  · rw [cp2_n c]; exact h k' j'
theorem IX.up {M : Mem} (h : IX M) {k : Nat} {j v : Int} (hk : nSp k) (hv : BX k j v) : IX (up2 M k j v) := by
  obtain ⟨a, b, c, d, e⟩ := hk
  refine ⟨BX.up h.1 hv, ?_, fun k' j' hk' => ?_⟩
  · rw [up2_n (Ne.symm a)]; exact h.2.1
  · rw [up2_n (by rcases hk' with rfl | rfl <;> omega), up2_n (by rcases hk' with rfl | rfl <;> omega)]; exact h.2.2 k' j' hk'
theorem IX.up15 {M : Mem} (h : IX M) {j v : Int} (hj : j = 15) : IX (up2 M 155 j v) := by
  subst hj
  refine ⟨BX.up h.1 (by simp [BX]), ?_, fun k' j' hk' => ?_⟩
  · rw [up2_j (by decide), up2_j (by decide)]; exact h.2.1
  · rw [up2_n (by rcases hk' with rfl | rfl <;> omega), up2_n (by rcases hk' with rfl | rfl <;> omega)]; exact h.2.2 k' j' hk'
theorem IX.cp {M : Mem} (h : IX M) {a b : Nat} {n : Int} (hk : nSp b) (hv : ∀ j v, BX a j v → BX b j v) : IX (cp2 M a b n) := by
  obtain ⟨q, r, c, d, e⟩ := hk
  refine ⟨BX.cp h.1 hv, ?_, fun k' j' hk' => ?_⟩
  · rw [cp2_n (Ne.symm q)]; exact h.2.1
  · rw [cp2_n (by rcases hk' with rfl | rfl <;> omega), cp2_n (by rcases hk' with rfl | rfl <;> omega)]; exact h.2.2 k' j' hk'
theorem IX.cp180_181 {M : Mem} (h : IX M) {n : Int} : IX (cp2 M 180 181 n) := h.cp (by decide) (fun j v _ => by simp [BX])
-- bits
theorem aI_1 (a : Int) : 0 ≤ aI a 1 ∧ aI a 1 ≤ 1 := by
  obtain ⟨j, hj, e⟩ := pk_andE (iI a) (m := 1) 1 (by decide)
  have h : aI a 1 = (nI j).toInt := by
    unfold aI
    rw [show iI 1 = (1 : Int32) from rfl, ← e]
  rw [h]
  have h2 : (nI j).toInt = j := iI_toInt (z := (j : Int)) ⟨by omega, by omega⟩
  rw [h2]
  omega
theorem aI_63 (a : Int) : 0 ≤ aI a 63 ∧ aI a 63 ≤ 63 := by
  obtain ⟨j, hj, e⟩ := pk_andE (iI a) (m := 63) 6 (by decide)
  have h : aI a 63 = (nI j).toInt := by
    unfold aI
    rw [show iI 63 = (63 : Int32) from rfl, ← e]
  rw [h]
  have h2 : (nI j).toInt = j := iI_toInt (z := (j : Int)) ⟨by omega, by omega⟩
  rw [h2]
  omega
theorem slI_1 {b : Int} (h : 0 ≤ b ∧ b ≤ 8) : 1 ≤ slI 1 b ∧ slI 1 b ≤ 256 ∧ (b ≤ 6 → slI 1 b ≤ 64) ∧ (b ≤ 5 → slI 1 b ≤ 32) := by
  have : b = 0 ∨ b = 1 ∨ b = 2 ∨ b = 3 ∨ b = 4 ∨ b = 5 ∨ b = 6 ∨ b = 7 ∨ b = 8 := by omega
  rcases this with rfl | rfl | rfl | rfl | rfl | rfl | rfl | rfl | rfl <;> decide
theorem oI_64n : ∀ n, n < 64 → ∀ m, m < 33 → 0 ≤ oI (n : Nat) (m : Nat) ∧ oI (n : Nat) (m : Nat) ≤ 63 := by decide +kernel
theorem oI_64 {a b : Int} (ha : 0 ≤ a ∧ a ≤ 63) (hb : 0 ≤ b ∧ b ≤ 32) : 0 ≤ oI a b ∧ oI a b ≤ 63 := by
  have h := oI_64n a.toNat (by omega) b.toNat (by omega)
  rw [show ((a.toNat : Nat) : Int) = a from by omega, show ((b.toNat : Nat) : Int) = b from by omega] at h
  exact h
theorem dvI_e {a b : Int} (ha : 0 ≤ a ∧ a ≤ 2147483647) (hb : 1 ≤ b ∧ b ≤ 2147483647) : dvI a b = a / b := by
  unfold dvI
  rw [Int32.toInt_div, iI_toInt ⟨by omega, by omega⟩, iI_toInt ⟨by omega, by omega⟩, Int.tdiv_eq_ediv_of_nonneg ha.1]
  have h0 : 0 ≤ a / b := Int.ediv_nonneg ha.1 (by omega)
  have h1 : a / b ≤ a := Int.ediv_le_self b ha.1
  exact Int.bmod_eq_of_le (by omega) (by omega)
theorem rmI_b {a b : Int} (ha : 0 ≤ a ∧ a ≤ 2147483647) (hb : 1 ≤ b ∧ b ≤ 2147483647) : 0 ≤ rmI a b ∧ rmI a b ≤ b - 1 := by
  have h0 : 0 ≤ a / b := Int.ediv_nonneg ha.1 (by omega)
  have h1 : a / b ≤ a := Int.ediv_le_self b ha.1
  have q : iI a / iI b = iI (a / b) := by
    rw [← iI_toI (iI a / iI b)]
    exact congrArg iI (dvI_e ha hb)
  have hm : a - a / b * b = a % b := by
    have := Int.emod_add_mul_ediv a b
    have e : a / b * b = b * (a / b) := Int.mul_comm _ _
    omega
  have hr0 : 0 ≤ a % b := Int.emod_nonneg a (by omega)
  have hr1 : a % b < b := Int.emod_lt_of_pos a (by omega)
  have e : rmI a b = a % b := by
    unfold rmI
    rw [q, ← hm]
    have : iI a - iI (a / b) * iI b = iI (a - a / b * b) := by
      unfold iI
      rw [Int32.ofInt_sub, Int32.ofInt_mul]
    rw [this]
    exact iI_toInt ⟨by omega, by omega⟩
  omega
theorem dvI_b {a b : Int} (ha : 0 ≤ a ∧ a ≤ 2147483647) (hb : 1 ≤ b ∧ b ≤ 2147483647) : 0 ≤ dvI a b ∧ dvI a b ≤ a := by
  rw [dvI_e ha hb]
  exact ⟨Int.ediv_nonneg ha.1 (by omega), Int.ediv_le_self b ha.1⟩
theorem usI_16 (a : Int) : 0 ≤ usI a 16 ∧ usI a 16 ≤ 65535 := by
  have e : usI a 16 = ((iI a).toUInt32 >>> (16 : UInt32)).toBitVec.toInt := rfl
  have hn : ((iI a).toUInt32 >>> (16 : UInt32)).toBitVec.toNat < 65536 := by
    show ((iI a).toUInt32 >>> (16 : UInt32)).toNat < 65536
    rw [UInt32.toNat_shiftRight]
    show (iI a).toUInt32.toNat >>> 16 < 65536
    rw [Nat.shiftRight_eq_div_pow]
    have := (iI a).toUInt32.toNat_lt
    omega
  rw [e, BitVec.toInt_eq_toNat_of_lt (by omega)]
  omega
theorem ixS_0 (c : Int) : -1 ≤ ixS (bS 0) c ∧ ixS (bS 0) c ≤ 6 := by
  show -1 ≤ ixF c [112, 103, 99, 119, 116, 105, 109] 0 ∧ ixF c [112, 103, 99, 119, 116, 105, 109] 0 ≤ 6
  simp only [ixF]
  repeat (first | decide | split)

theorem sX2_add {k0 : Nat} {p1 p2 : Int} {M : Mem} {Q : Mem → Prop} (hI : IX M) (hk0 : isL k0) (hp : p1 = 301 → 0 ≤ p2 ∧ p2 ≤ 6) (hQ : ∀ M' : Mem, IX M' → Fr (fun i => i = k0 ∨ i = k0 + 1 ∨ i = k0 + 2) M M' → Q M') : qX2_add k0 p1 p2 M Q := by
  unfold qX2_add
  intro x1 e1 r1
  refine ⟨fun c => hQ _ hI Fr.rf, fun c => ?_⟩
  intro x3 e3 r3
  have b3 : 0 ≤ x3 ∧ x3 ≤ 40 := by rw [e3]; exact (bx_l4 hk0).mp (hI.bx _ _)
  refine ⟨by omega, by omega, ?_⟩
  intro M6 h6 x7 e7 r7
  have f7 : x7 = x3 := by rw [e7, h6, up2_n (by omega), e3]
  refine ⟨by omega, by omega, ?_⟩
  intro M10 h10 x11 e11 r11
  have f11 : x11 = x3 := by rw [e11, h10, up2_n (by omega), h6, up2_n (by omega), e3]
  refine ⟨⟨by omega, by omega⟩, ?_⟩
  intro M13 h13
  refine hQ _ ?_ ?_
  · rw [h13, h10, h6]
    refine ⟨BX.up (BX.up (BX.up hI.1 (bx_lf1 hk0)) (bx_lf2 hk0)) ((bx_l4 hk0).mpr ⟨by omega, by omega⟩), ?_, fun k' j' hk' => ?_⟩
    · rw [up2_n (by rcases hk0 with rfl | rfl <;> omega), up2_n (by rcases hk0 with rfl | rfl <;> omega), up2_n (by rcases hk0 with rfl | rfl <;> omega)]
      exact hI.2.1
    · have hd : k' + 1 ≠ k0 ∧ k' + 1 ≠ k0 + 2 ∧ k' + 2 ≠ k0 ∧ k' + 2 ≠ k0 + 1 := by rcases hk' with rfl | rfl <;> rcases hk0 with rfl | rfl <;> omega
      rw [up2_n hd.1, up2_n hd.2.1, up2_n hd.2.2.1, f7, up2_a, up2_a, up2_n (k' := k' + 2) hd.2.2.2]
      by_cases c1 : k' = k0
      · subst c1
        rw [if_pos rfl, if_pos rfl]
        by_cases c2 : j' = x3
        · rw [if_pos c2, if_pos c2]; exact hp
        · rw [if_neg c2, if_neg c2]; exact hI.2.2 _ _ hk'
      · rw [if_neg (by omega), if_neg (by omega)]; exact hI.2.2 _ _ hk'
  · rw [h13, h10, h6]
    exact ((Fr.rf.up (by omega)).up (by omega)).up (by omega)
theorem sX6_copyFrom {k0 k1 : Nat} {M : Mem} {Q : Mem → Prop} (hI : IX M) (hk0 : isS k0) (hk1 : isS k1) (hQ : ∀ M' : Mem, IX M' → Fr (fun i => k0 ≤ i ∧ i ≤ k0 + 6) M M' → Q M') : qX6_copyFrom k0 k1 M Q := by
  have ek0 : 0 < k0 ∧ k0 < 155 ∧ (k0 - 1) % 7 = 0 := hk0
  have ek1 : 0 < k1 ∧ k1 < 155 ∧ (k1 - 1) % 7 = 0 := hk1
  unfold qX6_copyFrom
  intro M1 h1 M2 h2 M3 h3 M4 h4 M5 h5 M6 h6 x7 e7 _ M8 h8 x9 e9 _ M10 h10 x11 e11 _ M12 h12 x13 e13 _ M14 h14 x15 e15 _ M16 h16
  have i1 : IX M1 := by rw [h1]; exact hI.cp (hk0.nsp 1 (by decide)) (fun j v q => (bx_s1 hk0).mpr ((bx_s1 hk1).mp q))
  have i2 : IX M2 := by rw [h2]; exact i1.cp (hk0.nsp 2 (by decide)) (fun j v q => bx_sf2 hk0)
  have i3 : IX M3 := by rw [h3]; exact i2.cp (hk0.nsp 3 (by decide)) (fun j v q => (bx_s3 hk0).mpr ((bx_s3 hk1).mp q))
  have i4 : IX M4 := by rw [h4]; exact i3.cp (hk0.nsp 4 (by decide)) (fun j v q => (bx_s4 hk0).mpr ((bx_s4 hk1).mp q))
  have i5 : IX M5 := by rw [h5]; exact i4.cp (hk0.nsp 5 (by decide)) (fun j v q => (bx_s5 hk0).mpr ((bx_s5 hk1).mp q))
  have i6 : IX M6 := by rw [h6]; exact i5.cp (hk0.nsp 6 (by decide)) (fun j v q => bx_sf6 hk0)
  have b7 : 0 ≤ x7 ∧ x7 ≤ 6 := by rw [e7]; exact (bx_s0_6 hk1).mp (i6.bx _ _)
  have i8 : IX M8 := by rw [h8]; exact i6.up (hk0.nsp 0 (by decide)) ((bx_s0_6 hk0).mpr b7)
  have b9 : 0 ≤ x9 ∧ x9 ≤ 8 := by rw [e9]; exact (bx_s0_7 hk1).mp (i8.bx _ _)
  have i10 : IX M10 := by rw [h10]; exact i8.up (hk0.nsp 0 (by decide)) ((bx_s0_7 hk0).mpr b9)
  have i12 : IX M12 := by rw [h12]; exact i10.up (hk0.nsp 0 (by decide)) (bx_sf0 hk0 (by decide) (by decide))
  have i14 : IX M14 := by rw [h14]; exact i12.up (hk0.nsp 0 (by decide)) (bx_sf0 hk0 (by decide) (by decide))
  have i16 : IX M16 := by rw [h16]; exact i14.up (hk0.nsp 0 (by decide)) (bx_sf0 hk0 (by decide) (by decide))
  refine hQ _ i16 ?_
  rw [h16, h14, h12, h10, h8, h6, h5, h4, h3, h2, h1]
  exact ((((((((((Fr.rf.cp (by omega)).cp (by omega)).cp (by omega)).cp (by omega)).cp (by omega)).cp (by omega)).up (by omega)).up (by omega)).up (by omega)).up (by omega)).up (by omega)
end
section
theorem sX2_addLetter {k0 : Nat} {p1 : Int} {M : Mem} {Q : Mem → Prop} (hI : IX M) (hk0 : isL k0) (hp : 0 ≤ p1 ∧ p1 ≤ 6) (hQ : ∀ M' : Mem, IX M' → Fr (fun i => i = k0 ∨ i = k0 + 1 ∨ i = k0 + 2) M M' → Q M') : qX2_addLetter k0 p1 M Q := by
  unfold qX2_addLetter
  have ek0 : k0 = 187 ∨ k0 = 192 := hk0
  refine sX2_add (p1 := 301) (p2 := p1) hI hk0 (by omega) ?_
  intro M1_1 hM1_1 gM1_1
  have hFM1_1 : Fr (fun i => i = k0 ∨ i = k0 + 1 ∨ i = k0 + 2) M M1_1 := (Fr.rf).tr (gM1_1.mono (by intro i h; omega))
  intro x2_2 ex2_2 rx2_2
  have bx2_2 : -2147483648 ≤ x2_2 ∧ x2_2 ≤ 2147483647 := rx2_2
  intro x3_3 ex3_3 rx3_3
  first | (have fx3_3 := slI_1 (b := p1) (by omega); rw [← ex3_3] at fx3_3) | skip
  intro x4_4 ex4_4 rx4_4
  first | (have fx4_4 := oI_64 (a := x2_2) (b := x3_3) (by omega) (by omega); rw [← ex4_4] at fx4_4) | skip
  intro M5_5 h_M5_5
  have hM5_5 : IX M5_5 := by rw [h_M5_5]; exact hM1_1.up (isL.nsp0 hk0) (bx_lf0 hk0 (by decide))
  have hFM5_5 : Fr (fun i => i = k0 ∨ i = k0 + 1 ∨ i = k0 + 2) M M5_5 := by rw [h_M5_5]; exact (hFM1_1).up (by omega)
  exact hQ _ hM5_5 hFM5_5
theorem sX2_clear {k0 : Nat} {M : Mem} {Q : Mem → Prop} (hI : IX M) (hk0 : isL k0) (hQ : ∀ M' : Mem, IX M' → Q M') : qX2_clear k0 M Q := by
  unfold qX2_clear
  have ek0 : k0 = 187 ∨ k0 = 192 := hk0
  intro M1_6 h_M1_6
  have hM1_6 : IX M1_6 := by rw [h_M1_6]; exact hI.up (isL.nsp0 hk0) ((bx_l4 hk0).mpr (by omega))
  intro M2_7 h_M2_7
  have hM2_7 : IX M2_7 := by rw [h_M2_7]; exact hM1_6.up (isL.nsp0 hk0) (bx_lf0 hk0 (by decide))
  exact hQ _ hM2_7
theorem sX2_becomePlain {k0 : Nat} {M : Mem} {Q : Mem → Prop} (hI : IX M) (hk0 : isL k0) (hQ : ∀ M' : Mem, IX M' → Q M') : qX2_becomePlain k0 M Q := by
  unfold qX2_becomePlain
  have ek0 : k0 = 187 ∨ k0 = 192 := hk0
  refine sX2_clear  hI hk0 ?_
  intro M1_8 hM1_8
  refine sX2_add (p1 := 300) (p2 := 1) hM1_8 hk0 (by omega) ?_
  intro M2_9 hM2_9 gM2_9
  refine sX2_addLetter (p1 := 1) hM2_9 hk0 (by omega) ?_
  intro M3_10 hM3_10 gM3_10
  refine sX2_add (p1 := 300) (p2 := 2) hM3_10 hk0 (by omega) ?_
  intro M4_11 hM4_11 gM4_11
  refine sX2_add (p1 := 62) (p2 := 0) hM4_11 hk0 (by omega) ?_
  intro M5_12 hM5_12 gM5_12
  refine sX2_add (p1 := 43) (p2 := 0) hM5_12 hk0 (by omega) ?_
  intro M6_13 hM6_13 gM6_13
  exact hQ _ hM6_13
theorem sX8_gate  {M : Mem} {Q : Int → Mem → Prop} (hI : IX M) (hQ : ∀ z : Int, (3 ≤ z ∧ z ≤ 29 ∧ z = M 158 1 - 1) → Q z M) : qX8_gate M Q := by
  unfold qX8_gate
  intro x1_109 ex1_109 rx1_109
  have bx1_109 : 4 ≤ x1_109 ∧ x1_109 ≤ 30 := by rw [ex1_109]; exact (bx_c158_1).mp (hI.bx _ _)
  refine ⟨(by first | assumption | exact (by omega)), ?_⟩
  exact hQ _ (by omega)
theorem sX9_look  {M : Mem} {Q : Int → Mem → Prop} (hI : IX M) (hQ : ∀ z : Int, (-1 ≤ z ∧ z ≤ 255) → Q z M) : qX9_look M Q := by
  unfold qX9_look
  intro x1_115 ex1_115 rx1_115
  have bx1_115 : 0 ≤ x1_115 ∧ x1_115 ≤ 80 := by rw [ex1_115]; exact (bx_c156_2).mp (hI.bx _ _)
  intro x2_116 ex2_116 rx2_116
  have bx2_116 : 0 ≤ x2_116 ∧ x2_116 ≤ 80 := by rw [ex2_116]; exact (bx_c156_3).mp (hI.bx _ _)
  refine ⟨fun c => ?_, fun c => ?_⟩
  · exact hQ _ (by omega)
  · intro x4_119 ex4_119 rx4_119
    have bx4_119 : 0 ≤ x4_119 ∧ x4_119 ≤ 80 := by rw [ex4_119]; exact (bx_c156_2).mp (hI.bx _ _)
    refine ⟨by omega, ?_⟩
    refine ⟨by omega, ?_⟩
    intro x7_120 ex7_120 rx7_120
    have bx7_120 : 0 ≤ x7_120 ∧ x7_120 ≤ 255 := by rw [ex7_120]; exact (bx_c157).mp (hI.bx _ _)
    exact hQ _ (by omega)
theorem sX9_pass  {M : Mem} {Q : Mem → Prop} (hI : IX M) (hQ : ∀ M' : Mem, IX M' → Fr (fun i => i = 156) M M' → Q M') : qX9_pass M Q := by
  unfold qX9_pass
  intro x1_121 ex1_121 rx1_121
  have bx1_121 : 0 ≤ x1_121 ∧ x1_121 ≤ 80 := by rw [ex1_121]; exact (bx_c156_2).mp (hI.bx _ _)
  intro x2_122 ex2_122 rx2_122
  have bx2_122 : 0 ≤ x2_122 ∧ x2_122 ≤ 80 := by rw [ex2_122]; exact (bx_c156_3).mp (hI.bx _ _)
  refine ⟨fun c => ?_, fun c => ?_⟩
  · exact hQ _ hI Fr.rf
  · intro x4_125 ex4_125 rx4_125
    have bx4_125 : 0 ≤ x4_125 ∧ x4_125 ≤ 80 := by rw [ex4_125]; exact (bx_c156_2).mp (hI.bx _ _)
    refine ⟨(by first | assumption | exact (by omega)), ?_⟩
    intro M6_126 h_M6_126
    have hM6_126 : IX M6_126 := by rw [h_M6_126]; exact hI.up (by decide) ((bx_c156_2).mpr (by omega))
    have hFM6_126 : Fr (fun i => i = 156) M M6_126 := by rw [h_M6_126]; exact (Fr.rf).up (by omega)
    exact hQ _ hM6_126 hFM6_126
theorem sX9_digit  {M : Mem} {Q : Int → Mem → Prop} (hI : IX M) (hQ : ∀ z : Int, ∀ M' : Mem, IX M' → Fr (fun i => i = 156) M M' → (-1 ≤ z ∧ z ≤ 9) → Q z M') : qX9_digit M Q := by
  unfold qX9_digit
  refine sX9_look  hI  ?_
  intro x1_127 p128 q129
  refine ⟨fun c => ?_, fun c => ?_⟩
  · exact hQ _ _ hI Fr.rf (by omega)
  · refine ⟨fun c => ?_, fun c => ?_⟩
    · refine sX9_pass  hI  ?_
      intro M4_133 hM4_133 gM4_133
      have hFM4_133 : Fr (fun i => i = 156) M M4_133 := (Fr.rf).tr (gM4_133.mono (by intro i h; omega))
      refine ⟨(by first | assumption | exact (by omega)), ?_⟩
      exact hQ _ _ hM4_133 hFM4_133 (by omega)
    · exact hQ _ _ hI Fr.rf (by omega)
theorem sX9_number_L10 {p1 : Int}  {Q : Int → Mem → Prop} {M0 : Mem} (hp : p1 = 2 ∨ p1 = 3) (hQ : ∀ z : Int, ∀ M' : Mem, IX M' → Fr (fun i => i = 156) M0 M' → (-1 ≤ z ∧ z ≤ 999 ∧ (p1 = 2 → z ≤ 99)) → Q z M') : ∀ (n : Nat) (v2 v3 v4 : Int) (M : Mem), IX M → Fr (fun i => i = 156) M0 M → (1 ≤ v4 ∧ v4 ≤ p1 ∧ -1 ≤ v3 ∧ v3 ≤ 9 ∧ -1 ≤ v2 ∧ v2 ≤ 999 ∧ (v4 = 1 → v2 ≤ 9) ∧ (v4 = 2 → v2 ≤ 99) ∧ (v3 = -1 ∨ 0 ≤ v2)) → 4 - v4 < (n : Int) → qX9_number_L10 p1 Q n v2 v3 v4 M := by
  intro n
  induction n with
  | zero => intro v2 v3 v4 M hI hF hv hm; exact absurd hm (by omega)
  | succ n ih =>
    intro v2 v3 v4 M hI hF hv hm
    rw [qX9_number_L10]
    refine ⟨(by first | assumption | exact (by omega)), ?_⟩
    refine ⟨fun c => ?_, fun c => ?_⟩
    · refine ⟨(by first | assumption | exact (by omega)), ?_⟩
      exact hQ _ _ hI hF (by omega)
    · refine ⟨(by first | assumption | exact (by omega)), ?_⟩
      refine ⟨fun c => ?_, fun c => ?_⟩
      · refine ⟨(by first | assumption | exact (by omega)), ?_⟩
        exact hQ _ _ hI hF (by omega)
      · refine sX9_digit  hI  ?_
        intro x8_139 M8_140 hM8_140 gM8_140 p141 q142
        have hFM8_140 : Fr (fun i => i = 156) M0 M8_140 := (hF).tr (gM8_140.mono (by intro i h; omega))
        refine ⟨fun c => ?_, fun c => ?_⟩
        · exact ih _ _ _ _ hM8_140 hFM8_140 (by omega) (by omega)
        · exact ih _ _ _ _ hM8_140 hFM8_140 (by omega) (by omega)
theorem sX9_number {p1 : Int} {M : Mem} {Q : Int → Mem → Prop} (hI : IX M) (hp : p1 = 2 ∨ p1 = 3) (hQ : ∀ z : Int, ∀ M' : Mem, IX M' → Fr (fun i => i = 156) M M' → (-1 ≤ z ∧ z ≤ 999 ∧ (p1 = 2 → z ≤ 99)) → Q z M') : qX9_number p1 M Q := by
  unfold qX9_number
  refine sX9_digit  hI  ?_
  intro x1_145 M1_146 hM1_146 gM1_146 p147 q148
  have hFM1_146 : Fr (fun i => i = 156) M M1_146 := (Fr.rf).tr (gM1_146.mono (by intro i h; omega))
  refine ⟨5, ?_⟩
  refine sX9_number_L10 hp ?_ _ _ _ _ _ hM1_146 hFM1_146 (by omega) (by omega)
  · exact hQ
theorem sX6_hearseOn_L2 {k0 : Nat} {p1 : Int}  {Q : Int → Mem → Prop} {M0 : Mem} (hk0 : isS k0) (hQ : ∀ z : Int, (-1 ≤ z ∧ z ≤ 5) → Q z M0) : ∀ (n : Nat) (v2 : Int), IX M0 → (0 ≤ v2 ∧ v2 ≤ 6) → 6 - v2 < (n : Int) → qX6_hearseOn_L2 k0 p1 Q n v2 M0 := by
  intro n
  induction n with
  | zero => intro v2 hI hv hm; exact absurd hm (by omega)
  | succ n ih =>
    intro v2 hI hv hm
    rw [qX6_hearseOn_L2]
    have ek0 : 0 < k0 ∧ k0 < 155 ∧ (k0 - 1) % 7 = 0 := hk0
    intro x1_165 ex1_165 rx1_165
    have bx1_165 : 0 ≤ x1_165 ∧ x1_165 ≤ 6 := by rw [ex1_165]; exact (bx_s0_6 hk0).mp (hI.bx _ _)
    refine ⟨(by first | assumption | exact (by omega)), ?_⟩
    refine ⟨fun c => ?_, fun c => ?_⟩
    · exact hQ _ (by omega)
    · refine ⟨by omega, ?_⟩
      refine ⟨by omega, ?_⟩
      intro x6_168 ex6_168 rx6_168
      have bx6_168 : -1 ≤ x6_168 ∧ x6_168 ≤ 29 := by rw [ex6_168]; exact (bx_s1 hk0).mp (hI.bx _ _)
      refine ⟨fun c => ?_, fun c => ?_⟩
      · exact ih _ hI (by omega) (by omega)
      · exact hQ _ (by omega)
theorem sX6_hearseOn {k0 : Nat} {p1 : Int} {M : Mem} {Q : Int → Mem → Prop} (hI : IX M) (hk0 : isS k0) (hQ : ∀ z : Int, (-1 ≤ z ∧ z ≤ 5) → Q z M) : qX6_hearseOn k0 p1 M Q := by
  unfold qX6_hearseOn
  have ek0 : 0 < k0 ∧ k0 < 155 ∧ (k0 - 1) % 7 = 0 := hk0
  refine ⟨7, ?_⟩
  refine sX6_hearseOn_L2 hk0 ?_ _ _ hI (by omega) (by omega)
  · exact hQ
theorem sX9_isWhole  {M : Mem} {Q : Int → Mem → Prop} (hI : IX M) (hQ : ∀ z : Int, Q z M) : qX9_isWhole M Q := by
  unfold qX9_isWhole
  intro x1_220 ex1_220 rx1_220
  have bx1_220 : 0 ≤ x1_220 ∧ x1_220 ≤ 80 := by rw [ex1_220]; exact (bx_c156_2).mp (hI.bx _ _)
  intro x2_221 ex2_221 rx2_221
  have bx2_221 : 0 ≤ x2_221 ∧ x2_221 ≤ 80 := by rw [ex2_221]; exact (bx_c156_1).mp (hI.bx _ _)
  refine ⟨fun c => ?_, fun c => ?_⟩
  · exact hQ _
  · exact hQ _
theorem sX9_open {p1 : Int} {M : Mem} {Q : Mem → Prop} (hI : IX M) (hp : 0 ≤ p1 ∧ p1 ≤ 80) (hQ : ∀ M' : Mem, IX M' → Fr (fun i => i = 156) M M' → Q M') : qX9_open p1 M Q := by
  unfold qX9_open
  intro M1_224 h_M1_224
  have hM1_224 : IX M1_224 := by rw [h_M1_224]; exact hI.up (by decide) ((bx_c156_2).mpr (by omega))
  have hFM1_224 : Fr (fun i => i = 156) M M1_224 := by rw [h_M1_224]; exact (Fr.rf).up (by omega)
  intro x2_225 ex2_225 rx2_225
  have bx2_225 : 0 ≤ x2_225 ∧ x2_225 ≤ 80 := by rw [ex2_225]; exact (bx_c156_1).mp (hM1_224.bx _ _)
  have fx2_225 : x2_225 = M 156 1 := by rw [ex2_225, h_M1_224, up2_j (by decide)]
  intro x3_226 ex3_226 rx3_226
  intro M4_227 h_M4_227
  have hM4_227 : IX M4_227 := by rw [h_M4_227]; exact hM1_224.up (by decide) ((bx_c156_3).mpr (by omega))
  have hFM4_227 : Fr (fun i => i = 156) M M4_227 := by rw [h_M4_227]; exact (hFM1_224).up (by omega)
  exact hQ _ hM4_227 hFM4_227
theorem sX9_isEmpty  {M : Mem} {Q : Int → Mem → Prop} (hI : IX M) (hQ : ∀ z : Int, Q z M) : qX9_isEmpty M Q := by
  unfold qX9_isEmpty
  intro x1_289 ex1_289 rx1_289
  have bx1_289 : 0 ≤ x1_289 ∧ x1_289 ≤ 80 := by rw [ex1_289]; exact (bx_c156_1).mp (hI.bx _ _)
  refine ⟨fun c => ?_, fun c => ?_⟩
  · exact hQ _
  · exact hQ _
end
