/-! SPLIT: worlds side by side -/
theorem pick_l (a b : va_W) : (List.range a.length).map (fun i => (a ++ b)[i]?) = a.map some := by
  rw [← pick_all a]
  apply List.map_congr_left
  intro i hi
  rw [List.getElem?_append_left (List.mem_range.mp hi)]
theorem pick_r (a b : va_W) : ((List.range b.length).map (fun i => i + a.length)).map (fun i => (a ++ b)[i]?) = b.map some := by
  rw [← pick_all b, List.map_map]
  apply List.map_congr_left
  intro i _
  show (a ++ b)[i + a.length]? = b[i]?
  rw [List.getElem?_append_right (Nat.le_add_left _ _), Nat.add_sub_cancel]
theorem nd_of {l : List Nat} (h : l.Nodup) : va_nd l = true := by
  induction l with
  | nil => rfl
  | cons a l ih =>
    have h2 := List.nodup_cons.mp h
    unfold va_nd
    rw [ih h2.2]
    simp [h2.1]
theorem nodup_shift (n k : Nat) : ((List.range n).map (fun i => i + k)).Nodup := List.Pairwise.map _ (fun a b (h : a ≠ b) hab => h (by omega)) List.nodup_range
theorem wS.swap {D : va_G} {A : Nat → Prop} {H0 H : Heap} {locs : List Loc} {a b : va_W} (hw : wS D A H0 (a ++ b) H locs) : wS D A H0 (b ++ a) H locs := by
  refine hw.pick ((List.range b.length).map (fun i => i + a.length) ++ List.range a.length) (nd_of ?_) ?_
  · rw [List.nodup_append]
    refine ⟨nodup_shift _ _, List.nodup_range, ?_⟩
    intro x hx y hy
    obtain ⟨i, hi, rfl⟩ := List.mem_map.mp hx
    have := List.mem_range.mp hy
    omega
  · rw [List.map_append, List.map_append, pick_l, pick_r]
theorem wS.rot {D : va_G} {A : Nat → Prop} {H0 H : Heap} {locs : List Loc} {a b c : va_W} (hw : wS D A H0 (a ++ (b ++ c)) H locs) : wS D A H0 (b ++ (c ++ a)) H locs := by
  have h := hw.swap
  rw [List.append_assoc] at h
  exact h
section KS
variable {p : Program} {l : Launch} {e : Env} {R : Room} {s : State} {m : MethodId} {args : Array Value} {below : List Frame} {meth : Method} {c : Code} {H : Heap} {locs : List Loc} {cells slots : Nat} {Q : State → Prop}
variable {cc : ByteArray} {pc : Nat} {ls : Array Slot} {rest st0 : List Value} {D : va_G} {A : Nat → Prop} {a : Nat} {rst : va_W} {τ : Nat → ClassId} {own : String} {sA sV : Nat → Nat}
variable {y : MethodName} {b : ByteArray} {mL n lev mc ms index nL cells' slots' : Nat} {ret : Option FieldType} {As : List Value} {Wf : Mem → va_W} {Rf : Mem → Prop} {M0 : Mem}
theorem s_cVi (hx : p.tables.exec = Jvm.exec) (hb : c.code = cc) (hml : c.maxLocals = nL) (hC : cx D τ s m args own) (hLS : LK A s s.heap sA sV) (hA : ∀ q, s.heap.size ≤ q → A q) (hw : wS D A s.heap (Wf M0 ++ rst) H locs) (hl : ls.size = nL) {Q1 : Int → Mem → Prop} (M : Met l y (lw_w y b mL ret) (rmk lev mc ms) (kPc D τ sA sV (Wf M0) H.size (.ref a :: As)) (gQi D (EQi Wf Rf Q1) (va_A (Wf M0) H.size)) mc ms (va_A (Wf M0) H.size)) (K : KV y b mL ret n) (hlk : Cond.methodLink own index y ∈ lw_good) {q0 ci : Nat} {fs : List Value} {T : u_T} {N : Nat} (hci : vwCl[ci]? = some (y.cls, T, N)) (hq0 : (Wf M0)[q0]? = some (a, .inr (ci, fs))) (hst : st0 = As.reverse ++ .ref a :: rest) (hn : As.length = n) (hcat : (rest.map fun v => v.category).sum ≤ 8) (hroom : lev + 1 ≤ R.frames ∧ 8 + (mL + 11) + 64 * lev ≤ R.locals) (hcs : cells + mc ≤ R.cells ∧ slots + ms ≤ R.slots) (hc2 : cells + mc = cells') (hs2 : slots + ms = slots') (hd : decode cc pc = .ok (.invokevirtual index, 3))
    (kk : ∀ (z : Int) (M : Mem) (H : Heap) (locs : List Loc), iR z → Rf M → Q1 z M → wS D A s.heap (Wf M ++ rst) H locs → W p l e R s m args below meth c H locs cells' slots' Q (F0 m (pc + 3) ls (.int (iI z) :: rest))) : W p l e R s m args below meth c H locs cells slots Q (F0 m pc ls st0) :=
  j_cVi hx hb hml hC hLS hA hw hl (wr := rst) M K hlk (List.range (Wf M0).length) ((List.range rst.length).map (fun i => i + (Wf M0).length)) (pick_l _ _) (pick_r _ _) (va_nd_range _) (nd_of (nodup_shift _ _)) (fun i hi h => by
    obtain ⟨j, _, rfl⟩ := List.mem_map.mp hi
    have := List.mem_range.mp h
    omega) hci hq0 hst hn hcat hroom hcs hc2 hs2 hd (fun z M1 H1 locs1 hz hR hQ h1 => kk z M1 H1 locs1 hz hR hQ h1.swap)
theorem s_cVz (hx : p.tables.exec = Jvm.exec) (hb : c.code = cc) (hml : c.maxLocals = nL) (hC : cx D τ s m args own) (hLS : LK A s s.heap sA sV) (hA : ∀ q, s.heap.size ≤ q → A q) (hw : wS D A s.heap (Wf M0 ++ rst) H locs) (hl : ls.size = nL) {Q1 : Int → Mem → Prop} (M : Met l y (lw_w y b mL ret) (rmk lev mc ms) (kPc D τ sA sV (Wf M0) H.size (.ref a :: As)) (gQi D (EQz Wf Rf Q1) (va_A (Wf M0) H.size)) mc ms (va_A (Wf M0) H.size)) (K : KV y b mL ret n) (hlk : Cond.methodLink own index y ∈ lw_good) {q0 ci : Nat} {fs : List Value} {T : u_T} {N : Nat} (hci : vwCl[ci]? = some (y.cls, T, N)) (hq0 : (Wf M0)[q0]? = some (a, .inr (ci, fs))) (hst : st0 = As.reverse ++ .ref a :: rest) (hn : As.length = n) (hcat : (rest.map fun v => v.category).sum ≤ 8) (hroom : lev + 1 ≤ R.frames ∧ 8 + (mL + 11) + 64 * lev ≤ R.locals) (hcs : cells + mc ≤ R.cells ∧ slots + ms ≤ R.slots) (hc2 : cells + mc = cells') (hs2 : slots + ms = slots') (hd : decode cc pc = .ok (.invokevirtual index, 3))
    (kk : ∀ (z : Int) (M : Mem) (H : Heap) (locs : List Loc), iR z → (z = 0 ∨ z = 1) → Rf M → Q1 z M → wS D A s.heap (Wf M ++ rst) H locs → W p l e R s m args below meth c H locs cells' slots' Q (F0 m (pc + 3) ls (.int (iI z) :: rest))) : W p l e R s m args below meth c H locs cells slots Q (F0 m pc ls st0) :=
  j_cVz hx hb hml hC hLS hA hw hl (wr := rst) M K hlk (List.range (Wf M0).length) ((List.range rst.length).map (fun i => i + (Wf M0).length)) (pick_l _ _) (pick_r _ _) (va_nd_range _) (nd_of (nodup_shift _ _)) (fun i hi h => by
    obtain ⟨j, _, rfl⟩ := List.mem_map.mp hi
    have := List.mem_range.mp h
    omega) hci hq0 hst hn hcat hroom hcs hc2 hs2 hd (fun z M1 H1 locs1 hz h01 hR hQ h1 => kk z M1 H1 locs1 hz h01 hR hQ h1.swap)
theorem s_cVl (hx : p.tables.exec = Jvm.exec) (hb : c.code = cc) (hml : c.maxLocals = nL) (hC : cx D τ s m args own) (hLS : LK A s s.heap sA sV) (hA : ∀ q, s.heap.size ≤ q → A q) (hw : wS D A s.heap (Wf M0 ++ rst) H locs) (hl : ls.size = nL) {Q1 : Int → Mem → Prop} (M : Met l y (lw_w y b mL ret) (rmk lev mc ms) (kPc D τ sA sV (Wf M0) H.size (.ref a :: As)) (gQl D (EQi Wf Rf Q1) (va_A (Wf M0) H.size)) mc ms (va_A (Wf M0) H.size)) (K : KV y b mL ret n) (hlk : Cond.methodLink own index y ∈ lw_good) {q0 ci : Nat} {fs : List Value} {T : u_T} {N : Nat} (hci : vwCl[ci]? = some (y.cls, T, N)) (hq0 : (Wf M0)[q0]? = some (a, .inr (ci, fs))) (hst : st0 = As.reverse ++ .ref a :: rest) (hn : As.length = n) (hcat : (rest.map fun v => v.category).sum ≤ 8) (hroom : lev + 1 ≤ R.frames ∧ 8 + (mL + 11) + 64 * lev ≤ R.locals) (hcs : cells + mc ≤ R.cells ∧ slots + ms ≤ R.slots) (hc2 : cells + mc = cells') (hs2 : slots + ms = slots') (hd : decode cc pc = .ok (.invokevirtual index, 3))
    (kk : ∀ (z : Int) (M : Mem) (H : Heap) (locs : List Loc), lR z → Rf M → Q1 z M → wS D A s.heap (Wf M ++ rst) H locs → W p l e R s m args below meth c H locs cells' slots' Q (F0 m (pc + 3) ls (.long (lI z) :: rest))) : W p l e R s m args below meth c H locs cells slots Q (F0 m pc ls st0) :=
  j_cVl hx hb hml hC hLS hA hw hl (wr := rst) M K hlk (List.range (Wf M0).length) ((List.range rst.length).map (fun i => i + (Wf M0).length)) (pick_l _ _) (pick_r _ _) (va_nd_range _) (nd_of (nodup_shift _ _)) (fun i hi h => by
    obtain ⟨j, _, rfl⟩ := List.mem_map.mp hi
    have := List.mem_range.mp h
    omega) hci hq0 hst hn hcat hroom hcs hc2 hs2 hd (fun z M1 H1 locs1 hz hR hQ h1 => kk z M1 H1 locs1 hz hR hQ h1.swap)
end KS
