section
/-! MORE rows: long compares, constants, switches, arrays of references, copies, Math. -/
section RM
variable {p : Program} {l : Launch} {e : Env} {R : Room} {s : State} {m : MethodId} {args : Array Value} {below : List Frame} {meth : Method} {c : Code} {H : Heap} {locs : List Loc} {cells slots : Nat} {Q : State → Prop}
variable {cc : ByteArray} {pc : Nat} {ls : Array Slot} {rest st0 : List Value} {D : va_G} {A : Nat → Prop} {a : Nat} {ws wc wr : va_W} {H0 : Heap} {τ : Nat → ClassId} {own : String}
variable {index nL cells' slots' : Nat}
theorem lcmp_z {a b : Int} (ha : lR a) (hb : lR b) : ∃ z : Int, lg_cmp (lI a) (lI b) = iI z ∧ ((z = -1 ∧ a < b) ∨ (z = 0 ∧ a = b) ∨ (z = 1 ∧ b < a)) := by
  unfold lg_cmp
  by_cases h1 : b < a
  · exact ⟨1, by simp [(lI_lt hb ha).mpr h1]; rfl, Or.inr (Or.inr ⟨rfl, h1⟩)⟩
  · by_cases h2 : a < b
    · refine ⟨-1, ?_, Or.inl ⟨rfl, h2⟩⟩
      have q1 : ¬ lI b < lI a := fun g => h1 ((lI_lt hb ha).mp g)
      have q2 : lI a < lI b := (lI_lt ha hb).mpr h2
      have q3 : ¬ lI a = lI b := fun g => by have := (lI_eq ha hb).mp g; omega
      have q4 : ¬ lI b = lI a := fun g => q3 g.symm
      simp [q1, q2, q3, q4]; try rfl
    · have h3 : a = b := by omega
      subst h3
      exact ⟨0, by simp [h1]; try rfl, Or.inr (Or.inl ⟨rfl, rfl⟩)⟩
theorem r_lcmp (hx : p.tables.exec = Jvm.exec) (hb : c.code = cc) {a b : Int} (ha : lR a) (hb2 : lR b) (hd : decode cc pc = .ok (.lcmp, 1)) (k : ∀ z : Int, iR z → ((z = -1 ∧ a < b) ∨ (z = 0 ∧ a = b) ∨ (z = 1 ∧ b < a)) → W p l e R s m args below meth c H locs cells slots Q (F0 m (pc + 1) ls (.int (iI z) :: rest))) : W p l e R s m args below meth c H locs cells slots Q (F0 m pc ls (.long (lI b) :: .long (lI a) :: rest)) := by
  obtain ⟨z, h1, h2⟩ := lcmp_z ha hb2
  exact W.lcmp hx hb hd (by rw [h1]; exact k z (by omega) h2)
theorem r_ldc2 (hx : p.tables.exec = Jvm.exec) (hb : c.code = cc) (hC : cx D τ s m args own) {v : Int64} {z : Int} (h : Cond.constantLong own index v ∈ lw_good) (hv : v = lI z) (hd : decode cc pc = .ok (.ldc2_w index, 3)) (k : W p l e R s m args below meth c H locs cells slots Q (F0 m (pc + 3) ls (.long (lI z) :: rest))) : W p l e R s m args below meth c H locs cells slots Q (F0 m pc ls rest) := lv_ldc2 hx hb hC.2.1 (hC.1 _ h) hd (by rw [hv]; exact k)
theorem r_tblI (hx : p.tables.exec = Jvm.exec) (hb : c.code = cc) {dflt lo hi : Int} {offs : Array Int} {len : Nat} {z : Int} {off : Int} {tgt : Nat} (hd : decode cc pc = .ok (.tableswitch dflt lo hi offs, len)) (hz : iR z) (h1 : lo ≤ z) (h2 : z ≤ hi) (ho : offs[(z - lo).toNat]? = some off) (ht : (pc : Int) + off = (tgt : Int)) (k : W p l e R s m args below meth c H locs cells slots Q (F0 m tgt ls rest)) : W p l e R s m args below meth c H locs cells slots Q (F0 m pc ls (.int (iI z) :: rest)) :=
  lv_tableIn hx hb hd (by rw [iI_toInt hz]; omega) (by rw [iI_toInt hz]; omega) (by rw [iI_toInt hz]; exact ho) ht k
theorem r_tblO (hx : p.tables.exec = Jvm.exec) (hb : c.code = cc) {dflt lo hi : Int} {offs : Array Int} {len : Nat} {z : Int} {tgt : Nat} (hd : decode cc pc = .ok (.tableswitch dflt lo hi offs, len)) (hz : iR z) (h1 : z < lo ∨ hi < z) (ht : (pc : Int) + dflt = (tgt : Int)) (k : W p l e R s m args below meth c H locs cells slots Q (F0 m tgt ls rest)) : W p l e R s m args below meth c H locs cells slots Q (F0 m pc ls (.int (iI z) :: rest)) :=
  lv_tableOut hx hb hd (by rw [iI_toInt hz]; exact h1) ht k
theorem r_mabs (hx : p.tables.exec = Jvm.exec) (hb : c.code = cc) (hml : c.maxLocals = nL) (hC : cx D τ s m args own) (hl : ls.size = nL) (h1 : Cond.methodLink own index Lib.Math.abs.name ∈ lw_good) (h2 : Cond.static Lib.Math.abs.name ∈ lw_good) (h3 : Cond.initialized "java/lang/Math" ∈ lw_good) (h4 : Cond.code Lib.Math.abs.name Lib.Math.abs.code 1 (some .int) ∈ lw_good) (hfr : 1 ≤ R.frames) (hlo : (rest.map fun v => v.category).sum + 13 ≤ R.locals) (hcs : cells ≤ R.cells) (hss : slots ≤ R.slots) {x : Int} (hrx : iR x) (hd : decode cc pc = .ok (.invokestatic index, 3)) (kk : ∀ z : Int, (0 ≤ x → z = x) → (x < 0 → z = -x) → W p l e R s m args below meth c H locs cells slots Q (F0 m (pc + 3) ls (.int (iI z) :: rest))) : W p l e R s m args below meth c H locs cells slots Q (F0 m pc ls (.int (iI x) :: rest)) := by
  refine va_mabs hx hb (hml.trans hl.symm) hC.2.1 (hC.1 _ h1) (hC.1 _ h2) (hC.1 _ h3) (hC.1 _ h4) hfr hlo hcs hss hd ?_
  by_cases q : 0 ≤ x
  · rw [if_pos (by rw [iI_z, iI_le (by decide) hrx]; exact q)]
    exact kk x (fun _ => rfl) (fun g => by omega)
  · rw [if_neg (by rw [iI_z, iI_le (by decide) hrx]; exact q)]
    rw [iI_z, iI_sub]
    exact kk (0 - x) (fun g => by omega) (fun _ => by omega)
theorem r_copy (hx : p.tables.exec = Jvm.exec) (hb : c.code = cc) (hml : c.maxLocals = nL) (hC : cx D τ s m args own) (hl : ls.size = nL) (h1 : Cond.methodLink own index arraycopyName ∈ lw_good) (h2 : Cond.native arraycopyName ∈ lw_good) (h3 : Cond.static arraycopyName ∈ lw_good) (h4 : Cond.initialized "java/lang/System" ∈ lw_good) (hw : wS D A H0 ws H locs) (q0 q1 : Nat) {a0 n0 n1 : Nat} {f g : Int → Int} {n : Int} {ws' : va_W} (ha0 : ws[q0]? = some (a0, .inl (τ 0, n0, .inl (ar f)))) (ha1 : ws[q1]? = some (a, .inl (τ 0, n1, .inl (ar g)))) (hn0 : 0 ≤ n) (hn1 : n ≤ (n0 : Int)) (hn2 : n ≤ (n1 : Int)) (hn3 : n ≤ 100000) (hws : ws.set q1 (a, .inl (τ 0, n1, .inl (ar (cpy f g n)))) = ws') (hfr : 1 ≤ R.frames) (hcat : (rest.map fun v => v.category).sum ≤ 8) (hlo : 64 ≤ R.locals) (hd : decode cc pc = .ok (.invokestatic index, 3))
    (kk : ∀ (H : Heap) (locs : List Loc), wS D A H0 ws' H locs → W p l e R s m args below meth c H locs cells slots Q (F0 m (pc + 3) ls rest)) : W p l e R s m args below meth c H locs cells slots Q (F0 m pc ls (.int (iI n) :: .int (iI 0) :: .ref a :: .int (iI 0) :: .ref a0 :: rest)) := by
  subst hws
  have h0 : (iI 0).toNatClampNeg = 0 := iI_clamp (by decide)
  have hnn : (iI n).toNatClampNeg = n.toNat := iI_clamp ⟨by omega, by omega⟩
  have hlw : (rest.map fun v => v.category).sum + (nativeFrameWords "java/lang/System" "arraycopy" 5 + 11) ≤ R.locals := by
    have : nativeFrameWords "java/lang/System" "arraycopy" 5 + 11 ≤ 56 := by decide +kernel
    omega
  refine va_copyi (sp := iI 0) (dp := iI 0) (n := iI n) hx hb (hml.trans hl.symm) hC.2.1 (hC.1 _ h1) (hC.1 _ h2) (hC.1 _ h3) (hC.1 _ h4) hC.2.2.1 hw.1 hw.2.1 hw.2.2 q0 q1 0 0 ha0 ha1 rfl rfl rfl (iI_nn (by decide) (by decide)) (iI_nn (by decide) (by decide)) (iI_nn ⟨by omega, by omega⟩ hn0) (by rw [h0, hnn]; omega) (by rw [h0, hnn]; omega) (fun i hi => rfl) hfr hlw hd (fun H1 locs1 g1 g2 g3 => ?_)
  rw [ar_cpy f g hn0 (by omega)] at g1 g2
  exact kk H1 locs1 ⟨g1, g2, g3⟩
/-- an array of references, each known -/
abbrev rfs (f : Nat → Option Nat) : (Nat → Int32) ⊕ (Nat → Int64) ⊕ (Nat → UInt32) ⊕ (Nat → UInt64) ⊕ (Nat → Option Nat) := .inr (.inr (.inr (.inr f)))
theorem r_aaldS (hx : p.tables.exec = Jvm.exec) (hb : c.code = cc) (hC : cx D τ s m args own) (hw : wS D A H0 ws H locs) (q0 : Nat) {n : Nat} {f : Nat → Option Nat} {z : Int} {v : Value} (he : ws[q0]? = some (a, .inl (τ 3, n, rfs f))) (h0 : 0 ≤ z) (h1 : z < (n : Int)) (hn : n ≤ 2147483647) (hv : va_rf (f z.toNat) = v) (hd : decode cc pc = .ok (.aaload, 1)) (kk : W p l e R s m args below meth c H locs cells slots Q (F0 m (pc + 1) ls (v :: rest))) : W p l e R s m args below meth c H locs cells slots Q (F0 m pc ls (.int (iI z) :: .ref a :: rest)) :=
  va_aldq hx hb hC.2.2.1 hw.1 q0 3 (C := "BehindAnotherHearse$Scene") he rfl (iI_in h0 h1 hn) hd (by rw [iI_clamp ⟨by omega, by omega⟩, hv]; exact kk)
theorem r_aastS (hx : p.tables.exec = Jvm.exec) (hb : c.code = cc) (hC : cx D τ s m args own) (hw : wS D A H0 ws H locs) (q0 qk : Nat) {n v : Nat} {f f' : Nat → Option Nat} {z : Int} {vs : List Value} {ws' : va_W} (he : ws[q0]? = some (a, .inl (τ 3, n, rfs f))) (hk : ws[qk]? = some (v, .inr (7, vs))) (h0 : 0 ≤ z) (h1 : z < (n : Int)) (hn : n ≤ 2147483647) (hf : va_up f z.toNat (some v) = f') (hws : ws.set q0 (a, .inl (τ 3, n, rfs f')) = ws') (hd : decode cc pc = .ok (.aastore, 1)) (kk : ∀ (H : Heap) (locs : List Loc), wS D A H0 ws' H locs → W p l e R s m args below meth c H locs cells slots Q (F0 m (pc + 1) ls rest)) : W p l e R s m args below meth c H locs cells slots Q (F0 m pc ls (.ref v :: .int (iI z) :: .ref a :: rest)) := by
  subst hws
  subst hf
  refine va_astq hx hb hC.2.2.1 hw.1 hw.2.1 hw.2.2 q0 3 qk 7 (r := (RX6, TX6, 11)) he rfl hk rfl (iI_in h0 h1 hn) hd (fun H1 locs1 g1 g2 g3 => ?_)
  rw [iI_clamp ⟨by omega, by omega⟩] at g1 g2
  exact kk H1 locs1 ⟨g1, g2, g3⟩
theorem r_anewS (hx : p.tables.exec = Jvm.exec) (hb : c.code = cc) (hC : cx D τ s m args own) (hA : ∀ q, H0.size ≤ q → A q) (hw : wS D A H0 ws H locs) (h1 : Cond.classLink own index RX6 ∈ lw_good) {z : Int} {N : Nat} (hz : z = (N : Int)) (hN : N ≤ 100000) (hcells : cells + 1 ≤ R.cells) (hslots : slots + N ≤ R.slots) (hc2 : cells + 1 = cells') (hs2 : slots + N = slots') (hd : decode cc pc = .ok (.anewarray index, 3))
    (kk : ∀ (q : Nat) (H : Heap), wS D A H0 (ws ++ [(q, .inl (τ 3, N, rfs (fun _ => none)))]) H locs → W p l e R s m args below meth c H locs cells' slots' Q (F0 m (pc + 3) ls (.ref q :: rest))) : W p l e R s m args below meth c H locs cells slots Q (F0 m pc ls (.int (iI z) :: rest)) := by
  subst hc2
  subst hs2
  subst hz
  refine va_newq (C := "BehindAnotherHearse$Scene") hx hb hC.2.1 (hC.1 _ h1) hC.2.2.2.2.1 hC.2.2.1 hw.1 hw.2.1 hw.2.2 hA (iI_nn ⟨by omega, by omega⟩ (by omega)) (by rw [iI_clamp ⟨by omega, by omega⟩]; exact Int.toNat_natCast N) (by omega) hcells hslots hd (fun q cA H1 g0 g1 g2 g3 => ?_)
  have hA1 : cA = τ 3 := K_same g0 (k := 3) rfl
  subst hA1
  exact kk q H1 ⟨g1, g2, g3⟩
theorem mna_list {f : Nat → va_E} (r : Nat → Nat) (e : va_E) (n : Nat) : va_pl ([] ++ (List.range n).map r) (vr_up f ((List.range n).map r) e) = (List.range n).map (fun i => (r i, e)) := by
  rw [List.nil_append]
  unfold va_pl
  rw [List.map_map]
  apply List.map_congr_left
  intro i hi
  show (r i, vr_up f _ e (r i)) = _
  rw [vr_up_in (List.mem_map_of_mem hi)]
theorem r_mna {D : va_G} (hx : p.tables.exec = Jvm.exec) (hb : c.code = cc) (hC : cx D τ s m args own) (hA : ∀ q, H0.size ≤ q → A q) (hw : wS D A H0 ws H locs) (h1 : Cond.classLink own index "[[I" ∈ lw_good) (h2 : Cond.arrayClass .int ∈ lw_good) {N K : Nat} (hN : N ≤ 1000) (hK : K ≤ 1000) (hcells : cells + (1 + N) ≤ R.cells) (hslots : slots + (N + N * K) ≤ R.slots) (hc2 : cells + 1 + N = cells') (hs2 : slots + N + N * K = slots') (hd : decode cc pc = .ok (.multianewarray index 2, 4))
    (kk : ∀ (q : Nat) (r : Nat → Nat) (H : Heap), wS D A H0 (ws ++ [(q, .inl (τ 4, N, rfs (fun i => if i < N then some (r i) else none)))] ++ (List.range N).map (fun i => (r i, .inl (τ 0, K, .inl (ar (fun _ => 0)))))) H locs → W p l e R s m args below meth c H locs cells' slots' Q (F0 m (pc + 4) ls (.ref q :: rest))) : W p l e R s m args below meth c H locs cells slots Q (F0 m pc ls (.int (iI (K : Int)) :: .int (iI (N : Int)) :: rest)) := by
  subst hc2
  subst hs2
  have hI : s.vm.findClass (FieldType.array .int).toString = some (τ 0) := (hC.2.2.1.2 0 (τ 0, .int) rfl).2
  have e0 : ws ++ va_pl [] (fun _ => .inl (τ 0, K, .inl (ar (fun _ => 0)))) = ws := List.append_nil ws
  refine va_mna (L := []) (f := fun _ => .inl (τ 0, K, .inl (ar (fun _ => 0)))) (z := (K, .inl (ar (fun _ => 0)))) (ty := .int) hx hb hC.2.1 (hC.1 _ h1) hC.2.2.2.2.2 (hC.1 _ h2) hI hC.2.2.1 (by rw [e0]; exact hw.1) (by rw [e0]; exact hw.2.1) hw.2.2 hA (iI_nn ⟨by omega, by omega⟩ (by omega)) (iI_nn ⟨by omega, by omega⟩ (by omega)) (by rw [iI_clamp ⟨by omega, by omega⟩]; exact Int.toNat_natCast N) (by rw [iI_clamp ⟨by omega, by omega⟩]; exact Int.toNat_natCast K) (by omega) (by show K * 4 ≤ _; omega) (by omega) rfl rfl hcells hslots (fun cA => ?_) hd (fun q r cA H1 _ _ g0 g1 g2 g3 => ?_)
  · show ({ cls := cA, slots := Array.replicate K (.int 0), vm := .none } : Cell) = vp_cell cA _
    rw [arrV_new]
    rfl
  · have hA1 : cA = τ 4 := K_same g0 (k := 4) rfl
    subst hA1
    rw [mna_list] at g1 g2
    exact kk q r H1 ⟨g1, g2, g3⟩
end RM
end
section
/-! DEFS: a top value by a name; a new object's fields. -/
section RT
variable {p : Program} {l : Launch} {e : Env} {R : Room} {s : State} {m : MethodId} {args : Array Value} {below : List Frame} {meth : Method} {c : Code} {H : Heap} {locs : List Loc} {cells slots : Nat} {Q : State → Prop} {pc : Nat} {ls : Array Slot} {rest : List Value}
theorem r_top {z : Int} (k : ∀ v : Int, v = z → W p l e R s m args below meth c H locs cells slots Q (F0 m pc ls (.int (iI v) :: rest))) : W p l e R s m args below meth c H locs cells slots Q (F0 m pc ls (.int (iI z) :: rest)) := k z rfl
theorem r_topL {z : Int} (k : ∀ v : Int, v = z → W p l e R s m args below meth c H locs cells slots Q (F0 m pc ls (.long (lI v) :: rest))) : W p l e R s m args below meth c H locs cells slots Q (F0 m pc ls (.long (lI z) :: rest)) := k z rfl
end RT
theorem df_X0 : ∀ j, j < 3 → defaultValue (tyX0 j) = vp_V [.null, .null, .int (iI 0)] j := fun j hj => match j, hj with | 0, _ => rfl | 1, _ => rfl | 2, _ => rfl | j + 3, h => absurd h (by omega)
theorem df_X1 : ∀ j, j < 3 → defaultValue (tyX1 j) = vp_V [.null, .int (iI 0), .int (iI 0)] j := fun j hj => match j, hj with | 0, _ => rfl | 1, _ => rfl | 2, _ => rfl | j + 3, h => absurd h (by omega)
theorem df_X2 : ∀ j, j < 6 → defaultValue (tyX2 j) = vp_V [.null, .null, .null, .null, .int (iI 0), .int (iI 0)] j := fun j hj => match j, hj with | 0, _ => rfl | 1, _ => rfl | 2, _ => rfl | 3, _ => rfl | 4, _ => rfl | 5, _ => rfl | j + 6, h => absurd h (by omega)
theorem df_X3 : ∀ j, j < 3 → defaultValue (tyX3 j) = vp_V [.null, .null, .int (iI 0)] j := fun j hj => match j, hj with | 0, _ => rfl | 1, _ => rfl | 2, _ => rfl | j + 3, h => absurd h (by omega)
theorem df_X4 : ∀ j, j < 2 → defaultValue (tyX4 j) = vp_V [.null, .int (iI 0)] j := fun j hj => match j, hj with | 0, _ => rfl | 1, _ => rfl | j + 2, h => absurd h (by omega)
theorem df_X5 : ∀ j, j < 4 → defaultValue (tyX5 j) = vp_V [.null, .int (iI 0), .int (iI 0), .int (iI 0)] j := fun j hj => match j, hj with | 0, _ => rfl | 1, _ => rfl | 2, _ => rfl | 3, _ => rfl | j + 4, h => absurd h (by omega)
theorem df_X6 : ∀ j, j < 11 → defaultValue (tyX6 j) = vp_V [.null, .null, .null, .null, .null, .null, .int (iI 0), .int (iI 0), .int (iI 0), .int (iI 0), .int (iI 0)] j := fun j hj => match j, hj with | 0, _ => rfl | 1, _ => rfl | 2, _ => rfl | 3, _ => rfl | 4, _ => rfl | 5, _ => rfl | 6, _ => rfl | 7, _ => rfl | 8, _ => rfl | 9, _ => rfl | 10, _ => rfl | j + 11, h => absurd h (by omega)
theorem df_X7 : ∀ j, j < 2 → defaultValue (tyX7 j) = vp_V [.null, .int (iI 0)] j := fun j hj => match j, hj with | 0, _ => rfl | 1, _ => rfl | j + 2, h => absurd h (by omega)
theorem df_X8 : ∀ j, j < 4 → defaultValue (tyX8 j) = vp_V [.null, .int (iI 0), .int (iI 0), .int (iI 0)] j := fun j hj => match j, hj with | 0, _ => rfl | 1, _ => rfl | 2, _ => rfl | 3, _ => rfl | j + 4, h => absurd h (by omega)
theorem df_X9 : ∀ j, j < 4 → defaultValue (tyX9 j) = vp_V [.null, .int (iI 0), .int (iI 0), .int (iI 0)] j := fun j hj => match j, hj with | 0, _ => rfl | 1, _ => rfl | 2, _ => rfl | 3, _ => rfl | j + 4, h => absurd h (by omega)
theorem df_X10 : ∀ j, j < 6 → defaultValue (tyX10 j) = vp_V [.null, .null, .null, .int (iI 0), .int (iI 0), .int (iI 0)] j := fun j hj => match j, hj with | 0, _ => rfl | 1, _ => rfl | 2, _ => rfl | 3, _ => rfl | 4, _ => rfl | 5, _ => rfl | j + 6, h => absurd h (by omega)
theorem df_X11 : ∀ j, j < 18 → defaultValue (tyX11 j) = vp_V [.null, .null, .null, .null, .null, .null, .null, .null, .null, .null, .null, .null, .null, .null, .null, .int (iI 0), .null, .null] j := fun j hj => match j, hj with | 0, _ => rfl | 1, _ => rfl | 2, _ => rfl | 3, _ => rfl | 4, _ => rfl | 5, _ => rfl | 6, _ => rfl | 7, _ => rfl | 8, _ => rfl | 9, _ => rfl | 10, _ => rfl | 11, _ => rfl | 12, _ => rfl | 13, _ => rfl | 14, _ => rfl | 15, _ => rfl | 16, _ => rfl | 17, _ => rfl | j + 18, h => absurd h (by omega)
theorem df_X12 : ∀ j, j < 53 → defaultValue (tyX12 j) = vp_V [.int (iI 0), .int (iI 0), .null, .int (iI 0), .int (iI 0), .int (iI 0), .int (iI 0), .int (iI 0), .null, .null, .null, .null, .null, .null, .int (iI 0), .int (iI 0), .int (iI 0), .int (iI 0), .null, .null, .int (iI 0), .null, .null, .null, .int (iI 0), .int (iI 0), .null, .null, .int (iI 0), .null, .int (iI 0), .int (iI 0), .null, .null, .null, .int (iI 0), .null, .null, .null, .int (iI 0), .null, .null, .int (iI 0), .null, .null, .int (iI 0), .null, .null, .null, .int (iI 0), .null, .null, .null] j := fun j hj => match j, hj with | 0, _ => rfl | 1, _ => rfl | 2, _ => rfl | 3, _ => rfl | 4, _ => rfl | 5, _ => rfl | 6, _ => rfl | 7, _ => rfl | 8, _ => rfl | 9, _ => rfl | 10, _ => rfl | 11, _ => rfl | 12, _ => rfl | 13, _ => rfl | 14, _ => rfl | 15, _ => rfl | 16, _ => rfl | 17, _ => rfl | 18, _ => rfl | 19, _ => rfl | 20, _ => rfl | 21, _ => rfl | 22, _ => rfl | 23, _ => rfl | 24, _ => rfl | 25, _ => rfl | 26, _ => rfl | 27, _ => rfl | 28, _ => rfl | 29, _ => rfl | 30, _ => rfl | 31, _ => rfl | 32, _ => rfl | 33, _ => rfl | 34, _ => rfl | 35, _ => rfl | 36, _ => rfl | 37, _ => rfl | 38, _ => rfl | 39, _ => rfl | 40, _ => rfl | 41, _ => rfl | 42, _ => rfl | 43, _ => rfl | 44, _ => rfl | 45, _ => rfl | 46, _ => rfl | 47, _ => rfl | 48, _ => rfl | 49, _ => rfl | 50, _ => rfl | 51, _ => rfl | 52, _ => rfl | j + 53, h => absurd h (by omega)
end
section
/-! arrays of arrays are read -/
section RM2
variable {p : Program} {l : Launch} {e : Env} {R : Room} {s : State} {m : MethodId} {args : Array Value} {below : List Frame} {meth : Method} {c : Code} {H : Heap} {locs : List Loc} {cells slots : Nat} {Q : State → Prop}
variable {cc : ByteArray} {pc : Nat} {ls : Array Slot} {rest st0 : List Value} {D : va_G} {A : Nat → Prop} {a : Nat} {ws wc wr : va_W} {H0 : Heap} {τ : Nat → ClassId} {own : String}
theorem r_aaldM (hx : p.tables.exec = Jvm.exec) (hb : c.code = cc) (hC : cx D τ s m args own) (hw : wS D A H0 ws H locs) (q0 : Nat) {n : Nat} {f : Nat → Option Nat} {z : Int} {v : Value} (he : ws[q0]? = some (a, .inl (τ 4, n, rfs f))) (h0 : 0 ≤ z) (h1 : z < (n : Int)) (hn : n ≤ 2147483647) (hv : va_rf (f z.toNat) = v) (hd : decode cc pc = .ok (.aaload, 1)) (kk : W p l e R s m args below meth c H locs cells slots Q (F0 m (pc + 1) ls (v :: rest))) : W p l e R s m args below meth c H locs cells slots Q (F0 m pc ls (.int (iI z) :: .ref a :: rest)) := by
  have hc : (iI z).toNatClampNeg = z.toNat := iI_clamp ⟨by omega, by omega⟩
  have hin : vp_in (iI z) n := iI_in h0 h1 hn
  have hlt : (iI z).toNatClampNeg < n := by rw [hc]; omega
  refine W.aald (v := va_rf (f (iI z).toNatClampNeg)) (ty := .array .int) hx hb (hw.1 q0 _ he) ((hC.2.2.1.2 4 (τ 4, .array .int) rfl).1 n (fun j => va_rf (f j))) rfl (fun q => by cases q) (by show ¬ (iI z < 0 ∨ (arrV _ _ _).slots.size ≤ _); rw [arrV_size]; exact hin) (by show (arrV _ _ _).slots[_]? = _; rw [arrV_read _ _ hlt]) rfl rfl hd ?_
  rw [hc, hv]
  exact kk
end RM2
end
section
/-! MORE: members of library classes, wide constants -/
section RM3
variable {p : Program} {l : Launch} {e : Env} {R : Room} {s : State} {m : MethodId} {args : Array Value} {below : List Frame} {meth : Method} {c : Code} {H : Heap} {locs : List Loc} {cells slots : Nat} {Q : State → Prop}
variable {cc : ByteArray} {pc : Nat} {ls : Array Slot} {rest st0 : List Value} {D : va_G} {A : Nat → Prop} {a : Nat} {ws wc wr : va_W} {H0 : Heap} {τ : Nat → ClassId} {own : String} {index : Nat}
theorem r_ldcw (hx : p.tables.exec = Jvm.exec) (hb : c.code = cc) (hC : cx D τ s m args own) {v : Int32} {z : Int} (h : Cond.constant own index v ∈ lw_good) (hv : v = iI z) (hd : decode cc pc = .ok (.ldc_w index, 3)) (k : W p l e R s m args below meth c H locs cells slots Q (F0 m (pc + 3) ls (.int (iI z) :: rest))) : W p l e R s m args below meth c H locs cells slots Q (F0 m pc ls rest) := lv_ldcw hx hb hC.2.1 (hC.1 _ h) hd (by rw [hv]; exact k)
theorem lI_nz {z : Int} (h : lR z) (h0 : ¬ z = 0) : ¬ lI z = 0 := by rw [show (0 : Int64) = lI 0 from rfl, lI_eq h (by decide)]; exact h0
theorem r_ldiv (hx : p.tables.exec = Jvm.exec) (hb : c.code = cc) {a b : Int} (hd : decode cc pc = .ok (.ldiv, 1)) (hn : lR b) (hz : ¬ b = 0) (k : ∀ z : Int, lR z → lI a / lI b = lI z → W p l e R s m args below meth c H locs cells slots Q (F0 m (pc + 1) ls (.long (lI z) :: rest))) : W p l e R s m args below meth c H locs cells slots Q (F0 m pc ls (.long (lI b) :: .long (lI a) :: rest)) := by
  obtain ⟨z, h1, h2⟩ := lI_of (lI a / lI b)
  exact lv_ldiv hx hb hd (lI_nz hn hz) (by rw [h2]; exact k z h1 h2)
theorem r_lrem (hx : p.tables.exec = Jvm.exec) (hb : c.code = cc) {a b : Int} (hd : decode cc pc = .ok (.lrem, 1)) (hn : lR b) (hz : ¬ b = 0) (k : ∀ z : Int, lR z → lI a - lI a / lI b * lI b = lI z → W p l e R s m args below meth c H locs cells slots Q (F0 m (pc + 1) ls (.long (lI z) :: rest))) : W p l e R s m args below meth c H locs cells slots Q (F0 m pc ls (.long (lI b) :: .long (lI a) :: rest)) := by
  obtain ⟨z, h1, h2⟩ := lI_of (lI a - lI a / lI b * lI b)
  exact lv_lrem hx hb hd (lI_nz hn hz) (by rw [h2]; exact k z h1 h2)
end RM3
end
section
/-! MEMORY: a world's numbers as one function (cell, place) ↦ number; the machine's operations on Ints. Pure. -/
abbrev Mem : Type := Nat → Int → Int
def up2 (M : Mem) (k : Nat) (j v : Int) : Mem := fun i => if i = k then up (M k) j v else M i
def cp2 (M : Mem) (a b : Nat) (n : Int) : Mem := fun i => if i = b then cpy (M a) (M b) n else M i
def w32 (z : Int) : Int := (iI z).toInt
def w64 (z : Int) : Int := (lI z).toInt
def aI (a b : Int) : Int := (iI a &&& iI b).toInt
def oI (a b : Int) : Int := (iI a ||| iI b).toInt
def xI (a b : Int) : Int := (iI a ^^^ iI b).toInt
def slI (a b : Int) : Int := (iI a <<< (iI b &&& 31)).toInt
def srI (a b : Int) : Int := (iI a >>> (iI b &&& 31)).toInt
def usI (a b : Int) : Int := ((iI a).toUInt32 >>> ((iI b).toUInt32 &&& Int32.toUInt32 31)).toInt32.toInt
def dvI (a b : Int) : Int := (iI a / iI b).toInt
def rmI (a b : Int) : Int := (iI a - iI a / iI b * iI b).toInt
def dvL (a b : Int) : Int := (lI a / lI b).toInt
def rmL (a b : Int) : Int := (lI a - lI a / lI b * lI b).toInt
def b8I (a : Int) : Int := (iI a).toInt8.toInt32.toInt
def s16I (a : Int) : Int := (iI a).toInt16.toInt32.toInt
theorem toInt_R (x : Int32) : iR x.toInt := ⟨by have := Int32.le_toInt x; omega, by have := Int32.toInt_lt x; omega⟩
theorem toInt_L (x : Int64) : lR x.toInt := ⟨by have := Int64.le_toInt x; omega, by have := Int64.toInt_lt x; omega⟩
theorem w32_R (z : Int) : iR (w32 z) := toInt_R _
theorem w64_R (z : Int) : lR (w64 z) := toInt_L _
theorem w32_id {z : Int} (h : iR z) : w32 z = z := iI_toInt h
theorem w64_id {z : Int} (h : lR z) : w64 z = z := lI_toInt h
theorem iI_toI (x : Int32) : iI x.toInt = x := Int32.ofInt_toInt x
theorem lI_toI (x : Int64) : lI x.toInt = x := Int64.ofInt_toInt x
theorem iR_lR {z : Int} (h : iR z) : lR z := ⟨by omega, by omega⟩
def MR (M : Mem) : Prop := (∀ k j, 0 < k → iR (M k j)) ∧ ∀ j, lR (M 0 j)
theorem MR.get {M : Mem} (h : MR M) {k : Nat} (hk : 0 < k) (j : Int) : iR (M k j) := h.1 k j hk
theorem MR.getL {M : Mem} (h : MR M) (j : Int) : lR (M 0 j) := h.2 j
theorem MR.put {M : Mem} (h : MR M) {k : Nat} (hk : 0 < k) {j v : Int} (hv : iR v) : MR (up2 M k j v) := by
  refine ⟨fun i x hi => ?_, fun x => ?_⟩
  · unfold up2 up
    by_cases c : i = k
    · rw [if_pos c]
      by_cases c2 : x = j
      · rw [if_pos c2]; exact hv
      · rw [if_neg c2]; exact h.1 k x hk
    · rw [if_neg c]; exact h.1 i x hi
  · unfold up2
    rw [if_neg (by omega)]
    exact h.2 x
theorem MR.putL {M : Mem} (h : MR M) {j v : Int} (hv : lR v) : MR (up2 M 0 j v) := by
  refine ⟨fun i x hi => ?_, fun x => ?_⟩
  · unfold up2
    rw [if_neg (by omega)]
    exact h.1 i x hi
  · unfold up2 up
    rw [if_pos rfl]
    by_cases c2 : x = j
    · rw [if_pos c2]; exact hv
    · rw [if_neg c2]; exact h.2 x
theorem MR.copy {M : Mem} (h : MR M) {a b : Nat} (ha : 0 < a) (hb : 0 < b) {n : Int} : MR (cp2 M a b n) := by
  refine ⟨fun i x hi => ?_, fun x => ?_⟩
  · unfold cp2 cpy
    by_cases c : i = b
    · rw [if_pos c]
      by_cases c2 : 0 ≤ x ∧ x < n
      · rw [if_pos c2]; exact h.1 a x ha
      · rw [if_neg c2]; exact h.1 b x hb
    · rw [if_neg c]; exact h.1 i x hi
  · unfold cp2
    rw [if_neg (by omega)]
    exact h.2 x
/-- which cells are scenes, which are laws -/
abbrev isS (k : Nat) : Prop := 0 < k ∧ k < 155 ∧ (k - 1) % 7 = 0
abbrev isL (k : Nat) : Prop := k = 187 ∨ k = 192
theorem isS.pos {k : Nat} (h : isS k) : 0 < k := h.1
theorem isL.pos {k : Nat} (h : isL k) : 0 < k := by rcases h with rfl | rfl <;> decide
theorem isL_R {k : Nat} (h : isL k) : iR (k : Int) := by rcases h with rfl | rfl <;> decide
theorem isS_kept {e : Int} (h0 : 0 ≤ e) (h1 : e < 3) : isS (29 + 7 * e.toNat) := ⟨by omega, by omega, by omega⟩
theorem isS_hist {e : Int} (h0 : 0 ≤ e) (h1 : e < 15) : isS (50 + 7 * e.toNat) := ⟨by omega, by omega, by omega⟩
def bS (i : Nat) : List Int := ([[112, 103, 99, 119, 116, 105, 109], [46, 99], [97, 98, 99, 100, 101, 102], [], [112, 103, 99, 119, 116, 105, 109], [60, 62, 61], [43, 45], [42, 47], [110, 116, 112, 98, 120]] : List (List Int)).getD i []
def ixF (c : Int) : List Int → Int → Int
  | [], _ => -1
  | b :: l, k => if b = c then k else ixF c l (k + 1)
def ixS (bs : List Int) (c : Int) : Int := ixF c bs 0
end
