/-! STR: the JDK's String, by contract, over strings that are there -/
def W0 : Mem → va_W := fun _ => []
def T0 : Mem → Prop := fun _ => True
def m0 : Mem := fun _ _ => 0
theorem wq_0 : WQ W0 := ⟨0, fun _ => rfl, rfl⟩
theorem ST.down {D : va_G} {A : Nat → Prop} {s : State} {H : Heap} {locs : List Loc} {ws wc : va_W} {sa sv : Nat} {bs : List Int} (hST : ST A s s.heap sa sv bs) (hA : ∀ q, s.heap.size ≤ q → A q) (hw : wS D A s.heap ws H locs) (isC : List Nat) (hCm : isC.map (fun i => ws[i]?) = wc.map some) : ST (va_A wc H.size) s H sa sv bs := (hST.kept hw.2.2.2.1).narrow (va_free hw.2.1 hw.2.2 hA isC hCm)
section RS
variable {p : Program} {l : Launch} {e : Env} {R : Room} {s : State} {m : MethodId} {args : Array Value} {below : List Frame} {meth : Method} {c : Code} {H : Heap} {locs : List Loc} {cells slots : Nat} {Q : State → Prop}
variable {cc : ByteArray} {pc : Nat} {ls : Array Slot} {rest st0 : List Value} {D : va_G} {A : Nat → Prop} {a : Nat} {ws wc wr : va_W} {H0 : Heap} {τ : Nat → ClassId} {own : String} {sA sV : Nat → Nat}
variable {y : MethodName} {b : ByteArray} {mL n lev mc ms index nL cells' slots' : Nat} {ret : Option FieldType} {As : List Value} {Wf : Mem → va_W} {Rf : Mem → Prop} {M0 : Mem}
theorem k_nret (hWQ : WQ Wf) (hx : p.tables.exec = Jvm.exec) (hb : c.code = cc) {ty : FieldType} (hr : meth.sig.returnType = some ty) {z : Int} (hnr : narrow ty (.int (iI z)) = .int (iI z)) (hlk : meth.locks = false) (hw : wS D A s.heap (Wf M0) H locs) {Q1 : Int → Mem → Prop} (hM : Rf M0) (hz : iR z) (hv : Q1 z M0) (hd : decode cc pc = .ok (.ireturn, 1)) : W p l e R s m args below meth c H locs cells slots (MQ below (gQi D (EQi Wf Rf Q1) A) args s cells slots A) (F0 m pc ls [.int (iI z)]) := by
  obtain ⟨N, hN, hnd⟩ := hWQ
  have hp := pick_all (Wf M0)
  rw [hN] at hp
  exact W.zret hx hb hr hnr (fun t ht hW => ⟨⟨iI z, iI z, rfl, rfl, z, hz, rfl, Wf M0, ⟨M0, hM, hv, rfl⟩, by rw [ht]; exact P_pick hw.1 hp, hw.2.1.sub (List.range N) hnd hp⟩, hw.2.2.F ht⟩) hw.2.2.2.2 hd hlk
/-- a call of a String's method, over a world that it doesn't touch -/
theorem t_cVi0 (hWQ : WQ Wf) (hx : p.tables.exec = Jvm.exec) (hb : c.code = cc) (hml : c.maxLocals = nL) (hC : cx D τ s m args own) (hLS : LK A s s.heap sA sV) (hA : ∀ q, s.heap.size ≤ q → A q) (hw : wS D A s.heap (Wf M0) H locs) (hl : ls.size = nL) {P : Int → Prop} {sa sv : Nat} {bs : List Int} (hST : ST A s s.heap sa sv bs) (hy : y.cls = RJ0) (M : Met l y (lw_w y b mL ret) (rmk lev 0 0) (tPc D τ sA sV (W0 m0) H.size sa sv bs (.ref sa :: As)) (gQi D (EQi W0 T0 (fun z _ => P z)) (va_A (W0 m0) H.size)) 0 0 (va_A (W0 m0) H.size)) (K : KV y b mL ret n) (hlk : Cond.methodLink own index y ∈ lw_good) (hst : st0 = As.reverse ++ .ref sa :: rest) (hn : As.length = n) (hcat : (rest.map fun v => v.category).sum ≤ 8) (hroom : lev + 1 ≤ R.frames ∧ 8 + (mL + 11) + 64 * lev ≤ R.locals) (hcs : cells ≤ R.cells ∧ slots ≤ R.slots) (hd : decode cc pc = .ok (.invokevirtual index, 3))
    (kk : ∀ (z : Int) (H : Heap) (locs : List Loc), iR z → P z → wS D A s.heap (Wf M0) H locs → W p l e R s m args below meth c H locs cells slots Q (F0 m (pc + 3) ls (.int (iI z) :: rest))) : W p l e R s m args below meth c H locs cells slots Q (F0 m pc ls st0) := by
  obtain ⟨N, hN, hnd⟩ := hWQ
  have hp := pick_all (Wf M0)
  rw [hN] at hp
  refine t_cVi (wr := Wf M0) hx hb hml hC hLS hA hw hl (hST.down hA hw [] rfl) M K hlk [] (List.range N) rfl hp rfl hnd (fun i _ h => absurd h List.not_mem_nil) (by rw [hy]; exact hST.recv hw.2.2) hst hn hcat hroom hcs rfl rfl hd (fun z M1 H1 locs1 hz _ hP h1 => kk z H1 locs1 hz hP ?_)
  have h2 : Wf M0 ++ W0 M1 = Wf M0 := List.append_nil _
  rw [h2] at h1
  exact h1
end RS
theorem fl_J0_38 : Cond.fieldLink RJ0 38 RJ0 "COMPACT_STRINGS" "Z" ∈ lw_good := lw_gl (ws := [_]) (by decide +kernel) _ (List.mem_singleton.mpr rfl)
theorem fl_J0_9 : Cond.fieldLink RJ0 9 RJ0 "value" "[B" ∈ lw_good := lw_gl (ws := [_]) (by decide +kernel) _ (List.mem_singleton.mpr rfl)
theorem fl_J0_15 : Cond.fieldLink RJ0 15 RJ0 "coder" "B" ∈ lw_good := lw_gl (ws := [_]) (by decide +kernel) _ (List.mem_singleton.mpr rfl)
theorem fl_J0_1053 : Cond.fieldLink RJ0 1053 RJ3 "SIOOBE_FORMATTER" "Ljava/util/function/BiFunction;" ∈ lw_good := lw_gl (ws := [_]) (by decide +kernel) _ (List.mem_singleton.mpr rfl)
theorem s_coder (l : Launch) (D : va_G) (τ : Nat → ClassId) (sA sV : Nat → Nat) (sz sa sv : Nat) (bs : List Int) : Met l yJ0_coder_7d493 (lw_w yJ0_coder_7d493 cJ0_coder_7d493 1 (some .byte)) (rmk 1 0 0) (tPc D τ sA sV (W0 m0) sz sa sv bs [.ref sa]) (gQi D (EQi W0 T0 (fun z _ => z = 0)) (va_A (W0 m0) sz)) 0 0 (va_A (W0 m0) sz) := by
  refine t_met (ret := some .byte) (Qc := gQi D (EQi W0 T0 (fun z _ => z = 0))) (by decide +kernel) (Nat.le_of_ble_eq_true rfl) ?_
  intro p e s m args below meth c A ls hx hb hml hr hlk hnm hC hLS hST hA hw hl
  have hC : cx D τ s m args RJ0 := hC
  have hl : lv_has ls 1 [(0, .ref sa)] := hl
  refine va_gets hx hb hLS.2.1 hw.2.2 hC.2.1 (hC.1 _ fl_J0_38) (fun _ h => h) dJ0_coder_7d493_0 ?_
  rw [show (Value.int 1) = .int (iI 1) from rfl]
  refine r_if_eq (tgt := 13) hx hb dJ0_coder_7d493_3 (by decide) (by decide) (fun h => absurd h (by decide)) (fun _ => ?_)
  refine lv_aload_n hx hb dJ0_coder_7d493_6 rfl (lv_at hl 0 rfl) ?_
  refine vk_getf hx hb hST.2.1 hw.2.2 hC.2.1 (hC.1 _ fl_J0_15) (fun _ h => h) dJ0_coder_7d493_7 ?_
  refine lv_goto (tgt := 14) hx hb dJ0_coder_7d493_10 (by decide) ?_
  exact k_nret wq_0 (Rf := T0) (z := 0) hx hb hr rfl hlk hw trivial (by decide) rfl dJ0_coder_7d493_14
theorem s_latin (l : Launch) (D : va_G) (τ : Nat → ClassId) (sA sV : Nat → Nat) (sz sa sv : Nat) (bs : List Int) : Met l yJ0_isLatin1_aae02 (lw_w yJ0_isLatin1_aae02 cJ0_isLatin1_aae02 1 (some .boolean)) (rmk 1 0 0) (tPc D τ sA sV (W0 m0) sz sa sv bs [.ref sa]) (gQi D (EQi W0 T0 (fun z _ => z = 1)) (va_A (W0 m0) sz)) 0 0 (va_A (W0 m0) sz) := by
  refine t_met (ret := some .boolean) (Qc := gQi D (EQi W0 T0 (fun z _ => z = 1))) (by decide +kernel) (Nat.le_of_ble_eq_true rfl) ?_
  intro p e s m args below meth c A ls hx hb hml hr hlk hnm hC hLS hST hA hw hl
  have hC : cx D τ s m args RJ0 := hC
  have hl : lv_has ls 1 [(0, .ref sa)] := hl
  refine va_gets hx hb hLS.2.1 hw.2.2 hC.2.1 (hC.1 _ fl_J0_38) (fun _ h => h) dJ0_isLatin1_aae02_0 ?_
  rw [show (Value.int 1) = .int (iI 1) from rfl]
  refine r_if_eq (tgt := 17) hx hb dJ0_isLatin1_aae02_3 (by decide) (by decide) (fun h => absurd h (by decide)) (fun _ => ?_)
  refine lv_aload_n hx hb dJ0_isLatin1_aae02_6 rfl (lv_at hl 0 rfl) ?_
  refine vk_getf hx hb hST.2.1 hw.2.2 hC.2.1 (hC.1 _ fl_J0_15) (fun _ h => h) dJ0_isLatin1_aae02_7 ?_
  rw [show (Value.int 0) = .int (iI 0) from rfl]
  refine r_if_ne (tgt := 17) hx hb dJ0_isLatin1_aae02_10 (by decide) (by decide) (fun h => absurd rfl h) (fun _ => ?_)
  refine r_iconst hx hb dJ0_isLatin1_aae02_13 ?_
  refine lv_goto (tgt := 18) hx hb dJ0_isLatin1_aae02_14 (by decide) ?_
  exact k_nret wq_0 (Rf := T0) (z := 1) hx hb hr rfl hlk hw trivial (by decide) rfl dJ0_isLatin1_aae02_18
theorem shr0 {n : Nat} : iI n >>> (iI 0 &&& 31) = iI n := by
  have h : iI 0 &&& 31 = (0 : Int32) := by decide
  rw [h]
  apply Int32.toBitVec_inj.mp
  simp
theorem s_length (l : Launch) (D : va_G) (τ : Nat → ClassId) (sA sV : Nat → Nat) (sz sa sv : Nat) (bs : List Int) : Met l yJ0_length_8abf5 (lw_w yJ0_length_8abf5 cJ0_length_8abf5 1 (some .int)) (rmk 2 0 0) (tPc D τ sA sV (W0 m0) sz sa sv bs [.ref sa]) (gQi D (EQi W0 T0 (fun z _ => z = bs.length)) (va_A (W0 m0) sz)) 0 0 (va_A (W0 m0) sz) := by
  refine t_met (ret := some .int) (Qc := gQi D (EQi W0 T0 (fun z _ => z = bs.length))) (by decide +kernel) (Nat.le_of_ble_eq_true rfl) ?_
  intro p e s m args below meth c A ls hx hb hml hr hlk hnm hC hLS hST hA hw hl
  have hC : cx D τ s m args RJ0 := hC
  have hl : lv_has ls 1 [(0, .ref sa)] := hl
  have hn := hST.2.2.2.2.2
  refine lv_aload_n hx hb dJ0_length_8abf5_0 rfl (lv_at hl 0 rfl) ?_
  refine vk_getf hx hb hST.2.2.1 hw.2.2 hC.2.1 (hC.1 _ fl_J0_9) (fun _ h => h) dJ0_length_8abf5_1 ?_
  refine va_tlen (v := iI bs.length) hx hb hST.2.2.2.1 hw.2.2 rfl dJ0_length_8abf5_4 ?_
  refine lv_aload_n hx hb dJ0_length_8abf5_5 rfl (lv_at hl 0 rfl) ?_
  refine t_cVi0 wq_0 (As := []) (rest := [.int (iI bs.length)]) hx hb hml hC hLS hA hw hl.1 hST rfl (s_coder l D τ sA sV _ sa sv bs) kJ0_coder_7d493 ml_J0_335 rfl rfl (Nat.le_of_ble_eq_true rfl) (rm_ok (by decide) (by decide)) ⟨by decide, by decide⟩ dJ0_length_8abf5_6 (fun z1 H locs hz1 hE1 hw => ?_)
  subst hE1
  refine lv_ishr hx hb dJ0_length_8abf5_9 ?_
  rw [shr0]
  exact k_nret wq_0 (Rf := T0) (z := bs.length) hx hb hr rfl hlk hw trivial (by omega) rfl dJ0_length_8abf5_10
