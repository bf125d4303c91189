section
/-! the machine's classes at the law's entry -/
theorem NXw.of {args : Array Value} {s : State} (hts : ∀ w ∈ lw_tbl, w.before args s = true) : NXw s := fun w hw => by
  have h1 := (List.mem_filter.mp hw).2
  have h2 := hts w (List.mem_filter.mp hw).1
  revert h1 h2
  cases w <;> intro h1 h2 <;> first | exact absurd h1 Bool.false_ne_true | exact va_Nw.of rfl h2 | (simp [isNest] at h1)
set_option maxRecDepth 100000 in
theorem K_init {args : Array Value} {s : State} (hts : ∀ w ∈ lw_tbl, w.before args s = true) : ∃ (D : va_G) (τ : Nat → ClassId), va_K D vwCl (ty5 τ) s ∧ NX s := by
  obtain ⟨c0, i0, h0⟩ := u_known (C := RJ0) (T := TJ0) (N := 4) hts (fun w h => lw_gt (iJ0 w h)) (hts _ (lw_gt it_J0))
  obtain ⟨c1, i1, h1⟩ := u_known (C := RX0) (T := TX0) (N := 3) hts (fun w h => lw_gt (iX0 w h)) (hts _ (lw_gt it_X0))
  obtain ⟨c2, i2, h2⟩ := u_known (C := RX1) (T := TX1) (N := 3) hts (fun w h => lw_gt (iX1 w h)) (hts _ (lw_gt it_X1))
  obtain ⟨c3, i3, h3⟩ := u_known (C := RX2) (T := TX2) (N := 6) hts (fun w h => lw_gt (iX2 w h)) (hts _ (lw_gt it_X2))
  obtain ⟨c4, i4, h4⟩ := u_known (C := RX3) (T := TX3) (N := 3) hts (fun w h => lw_gt (iX3 w h)) (hts _ (lw_gt it_X3))
  obtain ⟨c5, i5, h5⟩ := u_known (C := RX4) (T := TX4) (N := 2) hts (fun w h => lw_gt (iX4 w h)) (hts _ (lw_gt it_X4))
  obtain ⟨c6, i6, h6⟩ := u_known (C := RX5) (T := TX5) (N := 4) hts (fun w h => lw_gt (iX5 w h)) (hts _ (lw_gt it_X5))
  obtain ⟨c7, i7, h7⟩ := u_known (C := RX6) (T := TX6) (N := 11) hts (fun w h => lw_gt (iX6 w h)) (hts _ (lw_gt it_X6))
  obtain ⟨c8, i8, h8⟩ := u_known (C := RX7) (T := TX7) (N := 2) hts (fun w h => lw_gt (iX7 w h)) (hts _ (lw_gt it_X7))
  obtain ⟨c9, i9, h9⟩ := u_known (C := RX8) (T := TX8) (N := 4) hts (fun w h => lw_gt (iX8 w h)) (hts _ (lw_gt it_X8))
  obtain ⟨c10, i10, h10⟩ := u_known (C := RX9) (T := TX9) (N := 4) hts (fun w h => lw_gt (iX9 w h)) (hts _ (lw_gt it_X9))
  obtain ⟨c11, i11, h11⟩ := u_known (C := RX10) (T := TX10) (N := 6) hts (fun w h => lw_gt (iX10 w h)) (hts _ (lw_gt it_X10))
  obtain ⟨c12, i12, h12⟩ := u_known (C := RX11) (T := TX11) (N := 18) hts (fun w h => lw_gt (iX11 w h)) (hts _ (lw_gt it_X11))
  obtain ⟨c13, i13, h13⟩ := u_known (C := RX12) (T := TX12) (N := 53) hts (fun w h => lw_gt (iX12 w h)) (hts _ (lw_gt it_X12))
  obtain ⟨a0, k0, m0, e0, f0, g0⟩ := Cond.arrayClass_spec (hts _ (lw_gt ac_int))
  obtain ⟨a1, k1, m1, e1, f1, g1⟩ := Cond.arrayClass_spec (hts _ (lw_gt ac_long))
  obtain ⟨a2, k2, m2, e2, f2, g2⟩ := Cond.arrayClass_spec (hts _ (lw_gt ac_boolean))
  obtain ⟨m3, a3, k3, p3, q3, f3, g3, e3⟩ := Cond.arrayOver_spec (hts _ ao_S)
  obtain ⟨m4, a4, k4, p4, q4, f4, g4, e4⟩ := AOA_spec (va_AOA.of (hts _ ao_I))
  refine ⟨(fun k => ([c0, c1, c2, c3, c4, c5, c6, c7, c8, c9, c10, c11, c12, c13] : List ClassId).getD k c0, fun k => ([i0, i1, i2, i3, i4, i5, i6, i7, i8, i9, i10, i11, i12, i13] : List (Nat → Nat)).getD k i0), fun k => ([a0, a1, a2, a3, a4] : List ClassId).getD k a0, ⟨fun k q hq => ?_, fun k q hq => ?_⟩, NXw.of hts, va_AO.of (hts _ ao_S), va_AOA.of (hts _ ao_I)⟩
  · match k, hq with
    | 0, hq => cases hq; exact h0
    | 1, hq => cases hq; exact h1
    | 2, hq => cases hq; exact h2
    | 3, hq => cases hq; exact h3
    | 4, hq => cases hq; exact h4
    | 5, hq => cases hq; exact h5
    | 6, hq => cases hq; exact h6
    | 7, hq => cases hq; exact h7
    | 8, hq => cases hq; exact h8
    | 9, hq => cases hq; exact h9
    | 10, hq => cases hq; exact h10
    | 11, hq => cases hq; exact h11
    | 12, hq => cases hq; exact h12
    | 13, hq => cases hq; exact h13
    | k + 14, hq => simp [vwCl] at hq
  · match k, hq with
    | 0, hq => cases hq; exact ⟨fun n z => ⟨fun k h => (by cases h), k0, f0, m0, g0⟩, e0⟩
    | 1, hq => cases hq; exact ⟨fun n z => ⟨fun k h => (by cases h), k1, f1, m1, g1⟩, e1⟩
    | 2, hq => cases hq; exact ⟨fun n z => ⟨fun k h => (by cases h), k2, f2, m2, g2⟩, e2⟩
    | 3, hq => cases hq; exact ⟨fun n z => ⟨fun k h => (by cases h), k3, f3, m3, g3⟩, k3, m3, f3, g3, p3, e3⟩
    | 4, hq => cases hq; exact ⟨fun n z => ⟨fun k h => (by cases h), k4, f4, m4, g4⟩, e4⟩
    | k + 5, hq => simp [ty5] at hq
section RS
variable {p : Program} {l : Launch} {e : Env} {R : Room} {s : State} {m : MethodId} {args : Array Value} {below : List Frame} {meth : Method} {c : Code} {H : Heap} {locs : List Loc} {cells slots : Nat} {Q : State → Prop} {cc : ByteArray} {pc : Nat} {ls : Array Slot} {rest : List Value} {D : va_G} {A : Nat → Prop} {ws : va_W}
theorem r_sld (hx : p.tables.exec = Jvm.exec) (hb : c.code = cc) {b L : Nat} {xs : Nat → Int32} (hX : va_X b L xs s s.heap) (hbl : b < s.heap.size) (hbA : ¬ A b) (hw : wS D A s.heap ws H locs) {z v : Int} (h0 : 0 ≤ z) (h1 : z < (L : Int)) (hL : L ≤ 2147483647) (hv : xs z.toNat = iI v) (hd : decode cc pc = .ok (.iaload, 1)) (kk : W p l e R s m args below meth c H locs cells slots Q (F0 m (pc + 1) ls (.int (iI v) :: rest))) : W p l e R s m args below meth c H locs cells slots Q (F0 m pc ls (.int (iI z) :: .ref b :: rest)) := by
  refine va_sld hx hb hX hbl hbA hw.2.2 (iI_in h0 h1 hL) hd ?_
  rw [iI_clamp ⟨by omega, by omega⟩, hv]
  exact kk
theorem r_slen (hx : p.tables.exec = Jvm.exec) (hb : c.code = cc) {b L : Nat} {xs : Nat → Int32} (hX : va_X b L xs s s.heap) (hbl : b < s.heap.size) (hbA : ¬ A b) (hw : wS D A s.heap ws H locs) (hd : decode cc pc = .ok (.arraylength, 1)) (kk : W p l e R s m args below meth c H locs cells slots Q (F0 m (pc + 1) ls (.int (iI (L : Int)) :: rest))) : W p l e R s m args below meth c H locs cells slots Q (F0 m pc ls (.ref b :: rest)) := by
  refine va_slen hx hb hX hbl hbA hw.2.2 hd ?_
  rw [show Int32.ofNat L = iI (L : Int) from rfl]
  exact kk
end RS
section RCW
variable {p : Program} {l : Launch} {e : Env} {R : Room} {s : State} {m : MethodId} {args : Array Value} {below : List Frame} {meth : Method} {c : Code} {H : Heap} {locs : List Loc} {cells slots : Nat} {Q : State → Prop}
variable {cc : ByteArray} {pc : Nat} {ls : Array Slot} {rest st0 : List Value} {D : va_G} {A : Nat → Prop} {ws wc wr : va_W} {τ : Nat → ClassId} {own : String}
variable {y : MethodName} {b : ByteArray} {mL n lev index nL cells' slots' : Nat} {sA sV : Nat → Nat} {As : List Value} {hh : List (Nat × Nat × Nat × Nat)}
theorem g_cW {E : Int → va_W → Prop} (hx : p.tables.exec = Jvm.exec) (hb : c.code = cc) (hml : c.maxLocals = nL) (hC : cx D τ s m args own) (hA : ∀ q, s.heap.size ≤ q → A q) (hLS : LK A s s.heap sA sV) (hXX : XX A s) (hw : wS D A s.heap ws H locs) (hl : ls.size = nL) (M : Met l y (.codeWith y b mL (some .int) hh :: lw_good) (rmk lev 1 6) (xPc D τ sA sV wc H.size As) (gQi D E (va_A wc H.size)) 1 6 (va_A wc H.size)) (hg : ∀ w ∈ va_wsS own index y (Cond.codeWith y b mL (some .int) hh :: lw_good), w ∈ lw_good) (hd2 : y.cls ≠ "java/lang/invoke/MethodHandle" ∧ y.cls ≠ "java/lang/invoke/VarHandle" ∧ (parseMethodDescriptor y.desc).map (fun d => d.parameters.length) = some n) (isC isR : List Nat) (hCm : isC.map (fun i => ws[i]?) = wc.map some) (hRm : isR.map (fun i => ws[i]?) = wr.map some) (hnC : va_nd isC = true) (hnR : va_nd isR = true) (hdis : ∀ i ∈ isR, i ∉ isC) (hst : st0 = As.reverse ++ rest) (hn : As.length = n) (hcat : (rest.map fun v => v.category).sum ≤ 8) (hroom : lev + 1 ≤ R.frames ∧ 8 + (mL + 11) + 64 * lev ≤ R.locals) (hcs : cells + 1 ≤ R.cells ∧ slots + 6 ≤ R.slots) (hc2 : cells + 1 = cells') (hs2 : slots + 6 = slots') (hd : decode cc pc = .ok (.invokestatic index, 3))
    (kk : ∀ (z : Int) (w1 : va_W) (H : Heap) (locs : List Loc), iR z → E z w1 → wS D A s.heap (wr ++ w1) H locs → W p l e R s m args below meth c H locs cells' slots' Q (F0 m (pc + 3) ls (.int (iI z) :: rest))) : W p l e R s m args below meth c H locs cells slots Q (F0 m pc ls st0) := by
  have hF := va_free hw.2.1 hw.2.2 hA isC hCm
  refine va_calli (vx_runSW ⟨hx, hb, hml, hC.2.1, hC.1⟩ M (vx_cwSW n hC.1 (g_good (fun _ h => h) hg) rfl rfl rfl hd2 hroom) ⟨xPc_blind, x_pre rfl hC hA hLS hXX hw hCm hnC⟩ rfl hn hl hst (lv_room hcat) hd hcs) hw.2.2 (fun q _ h => hF q h) hF (fun r u t H1 locs1 ht hvm hp hB hsz hk1 hS => ?_)
  obtain ⟨z, hz, e1, hB⟩ := hB
  obtain ⟨w1, hE, h1⟩ := g_behind hw hA hCm hRm hnR hdis ht hk1 hS hB
  subst hc2
  subst hs2
  rw [hp, e1]
  exact kk z w1 H1 locs1 hz hE h1
end RCW

theorem g_law {idx mL : Nat} {y : MethodName} {b : ByteArray} {hh : List (Nat × Nat × Nat × Nat)} (h1 : Cond.methodLink RL idx y ∈ lw_good) (h2 : Cond.static y ∈ lw_good) (h3 : Cond.initialized y.cls ∈ lw_good) (h4 : Cond.codeWith y b mL (some .int) hh ∈ lw_good) : ∀ w ∈ va_wsS RL idx y (Cond.codeWith y b mL (some .int) hh :: lw_good), w ∈ lw_good := by
  unfold va_wsS
  exact mem1 h1 (mem1 h2 (mem1 h3 (mem1 h4 (fun _ h => h))))

set_option maxRecDepth 100000 in
theorem g_law_hearse : ∀ w ∈ va_wsS RL 57 yL_hearse (Cond.codeWith yL_hearse cL_hearse 5 (some .int) [(0, 10, 13, 13)] :: lw_good), w ∈ lw_good := g_law (lw_h5 159 rfl rfl) (lw_h5 160 rfl rfl) (lw_h1 0 rfl rfl) (lw_h5 161 rfl rfl)
set_option maxRecDepth 100000 in
theorem g_law_mourner : ∀ w ∈ va_wsS RL 63 yL_mourner (Cond.codeWith yL_mourner cL_mourner 5 (some .int) [(0, 10, 13, 13)] :: lw_good), w ∈ lw_good := g_law (lw_h5 239 rfl rfl) (lw_h6 0 rfl rfl) (lw_h1 0 rfl rfl) (lw_h6 1 rfl rfl)
set_option maxRecDepth 100000 in
theorem g_law_row : ∀ w ∈ va_wsS RL 200 yL_row (Cond.codeWith yL_row cL_row 4 (some .int) [(0, 8, 11, 13)] :: lw_good), w ∈ lw_good := g_law (lw_h6 9 rfl rfl) (lw_h6 10 rfl rfl) (lw_h1 0 rfl rfl) (lw_h6 11 rfl rfl)
theorem SX_of {D : va_G} {τ : Nat → ClassId} {s : State} {b : Addr} {k : Nat} {tx : String} (hts : ∀ w ∈ lw_tbl, w.before #[Value.ref b] s = true) (hK : va_K D vwCl (ty5 τ) s) (h : Cond.stringRef RX11 k tx ∈ lw_tbl) : SX k tx s := by
  have hcur : s.vm.findClass RX11 = some (D.1 12) := (hK.1 12 (RX11, TX11, 18) rfl).2.1
  obtain ⟨_, _, _, a, -, -, -, -, -, ha⟩ := Cond.stringRef_spec hcur (hts _ h)
  exact ⟨a, vk_R.of (hts _ h) ha⟩
set_option maxRecDepth 100000 in
theorem TX_of {A : Nat → Prop} {s : State} {b : Addr} (hts : ∀ w ∈ lw_tbl, w.before #[Value.ref b] s = true) (hgv : (Jvm.Cond.and given_1 narrow_1).before #[Value.ref b] s = true) (hA : ∀ a : Nat, a < s.heap.size → ¬ A a) : TX A s := by
  have hs := flat_of_before _ hgv
  exact ⟨vx_Zqof (hts _ (by decide +kernel)) (hts (Cond.initialized Bundle.tN) (List.mem_append_right _ (lw_m1 22 rfl))) (hs _ (by decide +kernel)) hA, vx_Zqof (hts _ (by decide +kernel)) (hts (Cond.initialized Bundle.tN) (List.mem_append_right _ (lw_m1 22 rfl))) (hs _ (by decide +kernel)) hA⟩
theorem str_one {A : Nat → Prop} {s : State} {b : Addr} {own tx : String} {k n : Nat} {bs : List Int} (hts : ∀ w ∈ lw_tbl, w.before #[Value.ref b] s = true) (hA : ∀ a : Nat, a < s.heap.size → ¬ A a) (hn : n < 2 ^ 31) (hl : bs.length = n) (hb : ∀ x ∈ bs, 0 ≤ x ∧ x < 128) (h100 : n ≤ 100) (h0 : Cond.stringRef own k tx ∈ lw_tbl)
    (h1 : (Cond.exactly (.string own k) "java/lang/String").before #[Value.ref b] s = true) (h2 : (Cond.eq (.field (.string own k) "java/lang/String" "coder" "B") (.int 0)).before #[Value.ref b] s = true) (h3 : (Cond.arrayOf (.field (.string own k) "java/lang/String" "value" "[B") .byte).before #[Value.ref b] s = true) (h4 : (Cond.eq (.length (.field (.string own k) "java/lang/String" "value" "[B")) (.int (Int32.ofNat n))).before #[Value.ref b] s = true)
    (h5 : ∀ j, j < n → (Cond.eq (.elem (.field (.string own k) "java/lang/String" "value" "[B") (.int (Int32.ofNat j))) (.int (iI (bs.getD j 0)))).before #[Value.ref b] s = true) : ∃ sa sv : Nat, vk_R own k tx sa s ∧ ST A s s.heap sa sv bs := by
  obtain ⟨adK, adV, hS, hev⟩ := vk_Sof (args := #[Value.ref b]) (s := s) (N := 1) (tm := fun _ => Term.string own k) (len := [n]) (byt := [bs.map iI]) (A := A)
    (fun i hi => by obtain rfl : i = 0 := by omega
                    exact hn) (fun i hi => h1) (fun i hi => h2) (fun i hi => h3)
    (fun i hi => by obtain rfl : i = 0 := by omega
                    exact h4)
    (fun i hi j hj => by obtain rfl : i = 0 := by omega
                         have hj : j < n := hj
                         have h6 := h5 j hj
                         have h7 : (bs.map iI).getD j 0 = iI (bs.getD j 0) := by
                           rw [List.getD_eq_getElem?_getD, List.getD_eq_getElem?_getD, List.getElem?_map]
                           rw [List.getElem?_eq_getElem (by omega)]
                           rfl
                         show (Cond.eq _ (.int ((bs.map iI).getD j 0))).before _ _ = true
                         rw [h7]
                         exact h6)
    (fun i j hi hj hij => (hij (by omega)).elim) hA
  have g := hS.1 0 (by decide)
  refine ⟨adK 0, adV 0, vk_R.of (hts _ h0) (hev 0 (by decide)), g.1, g.2.1, g.2.2.1, ?_, hb, by omega⟩
  have g4 := g.2.2.2
  obtain ⟨cell, c1, c2, c3, c4, c5, c6, c7⟩ := g4
  subst hl
  refine ⟨cell, c1, c2, c3, c4, c5, fun j hj => ?_, c7⟩
  rw [c6 j hj]
  show some (Value.int ((bs.map iI).getD j 0)) = some (Value.int (iI (bs.getD j 0)))
  rw [List.getD_eq_getElem?_getD, List.getElem?_map, List.getD_eq_getElem?_getD, List.getElem?_eq_getElem hj]
  rfl
set_option maxRecDepth 100000 in
theorem LK_of {A : Nat → Prop} {s : State} {b : Addr} (hts : ∀ w ∈ lw_tbl, w.before #[Value.ref b] s = true) (hgv : (Jvm.Cond.and given_1 narrow_1).before #[Value.ref b] s = true) (hA : ∀ a : Nat, a < s.heap.size → ¬ A a) : ∃ sA sV : Nat → Nat, LK A s s.heap sA sV := by
  have hs := flat_of_before _ hgv
  obtain ⟨a0, v0, r0, t0⟩ := str_one (own := RX5) (k := 79) (tx := "pgcwtim") (n := 7) (bs := [112, 103, 99, 119, 116, 105, 109]) hts hA (by decide) rfl (by decide) (by decide) (List.mem_of_getElem? (i := 643) rfl) (hs (Cond.exactly (.string RX5 79) "java/lang/String") (List.mem_of_getElem? (i := 25) rfl)) (hs (Cond.eq (.field (.string RX5 79) "java/lang/String" "coder" "B") (.int 0)) (List.mem_of_getElem? (i := 26) rfl)) (hs (Cond.arrayOf (.field (.string RX5 79) "java/lang/String" "value" "[B") .byte) (List.mem_of_getElem? (i := 27) rfl)) (hs (Cond.eq (.length (.field (.string RX5 79) "java/lang/String" "value" "[B")) (.int 7)) (List.mem_of_getElem? (i := 28) rfl)) (fun j hj => match j, hj with | 0, _ => hs (Cond.eq (.elem (.field (.string RX5 79) "java/lang/String" "value" "[B") (.int 0)) (.int 112)) (List.mem_of_getElem? (i := 29) rfl) | 1, _ => hs (Cond.eq (.elem (.field (.string RX5 79) "java/lang/String" "value" "[B") (.int 1)) (.int 103)) (List.mem_of_getElem? (i := 30) rfl) | 2, _ => hs (Cond.eq (.elem (.field (.string RX5 79) "java/lang/String" "value" "[B") (.int 2)) (.int 99)) (List.mem_of_getElem? (i := 31) rfl) | 3, _ => hs (Cond.eq (.elem (.field (.string RX5 79) "java/lang/String" "value" "[B") (.int 3)) (.int 119)) (List.mem_of_getElem? (i := 32) rfl) | 4, _ => hs (Cond.eq (.elem (.field (.string RX5 79) "java/lang/String" "value" "[B") (.int 4)) (.int 116)) (List.mem_of_getElem? (i := 33) rfl) | 5, _ => hs (Cond.eq (.elem (.field (.string RX5 79) "java/lang/String" "value" "[B") (.int 5)) (.int 105)) (List.mem_of_getElem? (i := 34) rfl) | 6, _ => hs (Cond.eq (.elem (.field (.string RX5 79) "java/lang/String" "value" "[B") (.int 6)) (.int 109)) (List.mem_of_getElem? (i := 35) rfl) | j + 7, h => absurd h (by omega))
  obtain ⟨a1, v1, r1, t1⟩ := str_one (own := RX12) (k := 180) (tx := ".c") (n := 2) (bs := [46, 99]) hts hA (by decide) rfl (by decide) (by decide) (List.mem_of_getElem? (i := 1485) rfl) (hs (Cond.exactly (.string RX12 180) "java/lang/String") (List.mem_of_getElem? (i := 176) rfl)) (hs (Cond.eq (.field (.string RX12 180) "java/lang/String" "coder" "B") (.int 0)) (List.mem_of_getElem? (i := 177) rfl)) (hs (Cond.arrayOf (.field (.string RX12 180) "java/lang/String" "value" "[B") .byte) (List.mem_of_getElem? (i := 178) rfl)) (hs (Cond.eq (.length (.field (.string RX12 180) "java/lang/String" "value" "[B")) (.int 2)) (List.mem_of_getElem? (i := 179) rfl)) (fun j hj => match j, hj with | 0, _ => hs (Cond.eq (.elem (.field (.string RX12 180) "java/lang/String" "value" "[B") (.int 0)) (.int 46)) (List.mem_of_getElem? (i := 180) rfl) | 1, _ => hs (Cond.eq (.elem (.field (.string RX12 180) "java/lang/String" "value" "[B") (.int 1)) (.int 99)) (List.mem_of_getElem? (i := 181) rfl) | j + 2, h => absurd h (by omega))
  obtain ⟨a2, v2, r2, t2⟩ := str_one (own := RX12) (k := 205) (tx := "abcdef") (n := 6) (bs := [97, 98, 99, 100, 101, 102]) hts hA (by decide) rfl (by decide) (by decide) (List.mem_of_getElem? (i := 1564) rfl) (hs (Cond.exactly (.string RX12 205) "java/lang/String") (List.mem_of_getElem? (i := 188) rfl)) (hs (Cond.eq (.field (.string RX12 205) "java/lang/String" "coder" "B") (.int 0)) (List.mem_of_getElem? (i := 189) rfl)) (hs (Cond.arrayOf (.field (.string RX12 205) "java/lang/String" "value" "[B") .byte) (List.mem_of_getElem? (i := 190) rfl)) (hs (Cond.eq (.length (.field (.string RX12 205) "java/lang/String" "value" "[B")) (.int 6)) (List.mem_of_getElem? (i := 191) rfl)) (fun j hj => match j, hj with | 0, _ => hs (Cond.eq (.elem (.field (.string RX12 205) "java/lang/String" "value" "[B") (.int 0)) (.int 97)) (List.mem_of_getElem? (i := 192) rfl) | 1, _ => hs (Cond.eq (.elem (.field (.string RX12 205) "java/lang/String" "value" "[B") (.int 1)) (.int 98)) (List.mem_of_getElem? (i := 193) rfl) | 2, _ => hs (Cond.eq (.elem (.field (.string RX12 205) "java/lang/String" "value" "[B") (.int 2)) (.int 99)) (List.mem_of_getElem? (i := 194) rfl) | 3, _ => hs (Cond.eq (.elem (.field (.string RX12 205) "java/lang/String" "value" "[B") (.int 3)) (.int 100)) (List.mem_of_getElem? (i := 195) rfl) | 4, _ => hs (Cond.eq (.elem (.field (.string RX12 205) "java/lang/String" "value" "[B") (.int 4)) (.int 101)) (List.mem_of_getElem? (i := 196) rfl) | 5, _ => hs (Cond.eq (.elem (.field (.string RX12 205) "java/lang/String" "value" "[B") (.int 5)) (.int 102)) (List.mem_of_getElem? (i := 197) rfl) | j + 6, h => absurd h (by omega))
  obtain ⟨a3, v3, r3, t3⟩ := str_one (own := RJ1) (k := 151) (tx := "") (n := 0) (bs := []) hts hA (by decide) rfl (by decide) (by decide) (List.mem_of_getElem? (i := 1573) rfl) (hs (Cond.exactly (.string RJ1 151) "java/lang/String") (List.mem_of_getElem? (i := 205) rfl)) (hs (Cond.eq (.field (.string RJ1 151) "java/lang/String" "coder" "B") (.int 0)) (List.mem_of_getElem? (i := 206) rfl)) (hs (Cond.arrayOf (.field (.string RJ1 151) "java/lang/String" "value" "[B") .byte) (List.mem_of_getElem? (i := 207) rfl)) (hs (Cond.eq (.length (.field (.string RJ1 151) "java/lang/String" "value" "[B")) (.int 0)) (List.mem_of_getElem? (i := 208) rfl)) (fun j hj => absurd hj (by omega))
  obtain ⟨a4, v4, r4, t4⟩ := str_one (own := RX12) (k := 241) (tx := "pgcwtim") (n := 7) (bs := [112, 103, 99, 119, 116, 105, 109]) hts hA (by decide) rfl (by decide) (by decide) (List.mem_of_getElem? (i := 1663) rfl) (hs (Cond.exactly (.string RX12 241) "java/lang/String") (List.mem_of_getElem? (i := 230) rfl)) (hs (Cond.eq (.field (.string RX12 241) "java/lang/String" "coder" "B") (.int 0)) (List.mem_of_getElem? (i := 231) rfl)) (hs (Cond.arrayOf (.field (.string RX12 241) "java/lang/String" "value" "[B") .byte) (List.mem_of_getElem? (i := 232) rfl)) (hs (Cond.eq (.length (.field (.string RX12 241) "java/lang/String" "value" "[B")) (.int 7)) (List.mem_of_getElem? (i := 233) rfl)) (fun j hj => match j, hj with | 0, _ => hs (Cond.eq (.elem (.field (.string RX12 241) "java/lang/String" "value" "[B") (.int 0)) (.int 112)) (List.mem_of_getElem? (i := 234) rfl) | 1, _ => hs (Cond.eq (.elem (.field (.string RX12 241) "java/lang/String" "value" "[B") (.int 1)) (.int 103)) (List.mem_of_getElem? (i := 235) rfl) | 2, _ => hs (Cond.eq (.elem (.field (.string RX12 241) "java/lang/String" "value" "[B") (.int 2)) (.int 99)) (List.mem_of_getElem? (i := 236) rfl) | 3, _ => hs (Cond.eq (.elem (.field (.string RX12 241) "java/lang/String" "value" "[B") (.int 3)) (.int 119)) (List.mem_of_getElem? (i := 237) rfl) | 4, _ => hs (Cond.eq (.elem (.field (.string RX12 241) "java/lang/String" "value" "[B") (.int 4)) (.int 116)) (List.mem_of_getElem? (i := 238) rfl) | 5, _ => hs (Cond.eq (.elem (.field (.string RX12 241) "java/lang/String" "value" "[B") (.int 5)) (.int 105)) (List.mem_of_getElem? (i := 239) rfl) | 6, _ => hs (Cond.eq (.elem (.field (.string RX12 241) "java/lang/String" "value" "[B") (.int 6)) (.int 109)) (List.mem_of_getElem? (i := 240) rfl) | j + 7, h => absurd h (by omega))
  obtain ⟨a5, v5, r5, t5⟩ := str_one (own := RX12) (k := 246) (tx := "<>=") (n := 3) (bs := [60, 62, 61]) hts hA (by decide) rfl (by decide) (by decide) (List.mem_of_getElem? (i := 1664) rfl) (hs (Cond.exactly (.string RX12 246) "java/lang/String") (List.mem_of_getElem? (i := 251) rfl)) (hs (Cond.eq (.field (.string RX12 246) "java/lang/String" "coder" "B") (.int 0)) (List.mem_of_getElem? (i := 252) rfl)) (hs (Cond.arrayOf (.field (.string RX12 246) "java/lang/String" "value" "[B") .byte) (List.mem_of_getElem? (i := 253) rfl)) (hs (Cond.eq (.length (.field (.string RX12 246) "java/lang/String" "value" "[B")) (.int 3)) (List.mem_of_getElem? (i := 254) rfl)) (fun j hj => match j, hj with | 0, _ => hs (Cond.eq (.elem (.field (.string RX12 246) "java/lang/String" "value" "[B") (.int 0)) (.int 60)) (List.mem_of_getElem? (i := 255) rfl) | 1, _ => hs (Cond.eq (.elem (.field (.string RX12 246) "java/lang/String" "value" "[B") (.int 1)) (.int 62)) (List.mem_of_getElem? (i := 256) rfl) | 2, _ => hs (Cond.eq (.elem (.field (.string RX12 246) "java/lang/String" "value" "[B") (.int 2)) (.int 61)) (List.mem_of_getElem? (i := 257) rfl) | j + 3, h => absurd h (by omega))
  obtain ⟨a6, v6, r6, t6⟩ := str_one (own := RX12) (k := 248) (tx := "+-") (n := 2) (bs := [43, 45]) hts hA (by decide) rfl (by decide) (by decide) (List.mem_of_getElem? (i := 1665) rfl) (hs (Cond.exactly (.string RX12 248) "java/lang/String") (List.mem_of_getElem? (i := 269) rfl)) (hs (Cond.eq (.field (.string RX12 248) "java/lang/String" "coder" "B") (.int 0)) (List.mem_of_getElem? (i := 270) rfl)) (hs (Cond.arrayOf (.field (.string RX12 248) "java/lang/String" "value" "[B") .byte) (List.mem_of_getElem? (i := 271) rfl)) (hs (Cond.eq (.length (.field (.string RX12 248) "java/lang/String" "value" "[B")) (.int 2)) (List.mem_of_getElem? (i := 272) rfl)) (fun j hj => match j, hj with | 0, _ => hs (Cond.eq (.elem (.field (.string RX12 248) "java/lang/String" "value" "[B") (.int 0)) (.int 43)) (List.mem_of_getElem? (i := 273) rfl) | 1, _ => hs (Cond.eq (.elem (.field (.string RX12 248) "java/lang/String" "value" "[B") (.int 1)) (.int 45)) (List.mem_of_getElem? (i := 274) rfl) | j + 2, h => absurd h (by omega))
  obtain ⟨a7, v7, r7, t7⟩ := str_one (own := RX12) (k := 250) (tx := "*/") (n := 2) (bs := [42, 47]) hts hA (by decide) rfl (by decide) (by decide) (List.mem_of_getElem? (i := 1666) rfl) (hs (Cond.exactly (.string RX12 250) "java/lang/String") (List.mem_of_getElem? (i := 287) rfl)) (hs (Cond.eq (.field (.string RX12 250) "java/lang/String" "coder" "B") (.int 0)) (List.mem_of_getElem? (i := 288) rfl)) (hs (Cond.arrayOf (.field (.string RX12 250) "java/lang/String" "value" "[B") .byte) (List.mem_of_getElem? (i := 289) rfl)) (hs (Cond.eq (.length (.field (.string RX12 250) "java/lang/String" "value" "[B")) (.int 2)) (List.mem_of_getElem? (i := 290) rfl)) (fun j hj => match j, hj with | 0, _ => hs (Cond.eq (.elem (.field (.string RX12 250) "java/lang/String" "value" "[B") (.int 0)) (.int 42)) (List.mem_of_getElem? (i := 291) rfl) | 1, _ => hs (Cond.eq (.elem (.field (.string RX12 250) "java/lang/String" "value" "[B") (.int 1)) (.int 47)) (List.mem_of_getElem? (i := 292) rfl) | j + 2, h => absurd h (by omega))
  obtain ⟨a8, v8, r8, t8⟩ := str_one (own := RX12) (k := 377) (tx := "ntpbx") (n := 5) (bs := [110, 116, 112, 98, 120]) hts hA (by decide) rfl (by decide) (by decide) (List.mem_of_getElem? (i := 1822) rfl) (hs (Cond.exactly (.string RX12 377) "java/lang/String") (List.mem_of_getElem? (i := 306) rfl)) (hs (Cond.eq (.field (.string RX12 377) "java/lang/String" "coder" "B") (.int 0)) (List.mem_of_getElem? (i := 307) rfl)) (hs (Cond.arrayOf (.field (.string RX12 377) "java/lang/String" "value" "[B") .byte) (List.mem_of_getElem? (i := 308) rfl)) (hs (Cond.eq (.length (.field (.string RX12 377) "java/lang/String" "value" "[B")) (.int 5)) (List.mem_of_getElem? (i := 309) rfl)) (fun j hj => match j, hj with | 0, _ => hs (Cond.eq (.elem (.field (.string RX12 377) "java/lang/String" "value" "[B") (.int 0)) (.int 110)) (List.mem_of_getElem? (i := 310) rfl) | 1, _ => hs (Cond.eq (.elem (.field (.string RX12 377) "java/lang/String" "value" "[B") (.int 1)) (.int 116)) (List.mem_of_getElem? (i := 311) rfl) | 2, _ => hs (Cond.eq (.elem (.field (.string RX12 377) "java/lang/String" "value" "[B") (.int 2)) (.int 112)) (List.mem_of_getElem? (i := 312) rfl) | 3, _ => hs (Cond.eq (.elem (.field (.string RX12 377) "java/lang/String" "value" "[B") (.int 3)) (.int 98)) (List.mem_of_getElem? (i := 313) rfl) | 4, _ => hs (Cond.eq (.elem (.field (.string RX12 377) "java/lang/String" "value" "[B") (.int 4)) (.int 120)) (List.mem_of_getElem? (i := 314) rfl) | j + 5, h => absurd h (by omega))
  refine ⟨fun i => ([a0, a1, a2, a3, a4, a5, a6, a7, a8] : List Nat).getD i 0, fun i => ([v0, v1, v2, v3, v4, v5, v6, v7, v8] : List Nat).getD i 0, fun i hi => ?_, va_Zof (hts (Cond.laysStatic RJ0 "COMPACT_STRINGS" "Z") (List.mem_append_right _ (lw_m3 95 rfl))) (hts (Cond.initialized RJ0) (List.mem_append_right _ (lw_m1 15 rfl))) (va_eqt (hs (Cond.eq (.static "java/lang/String" "COMPACT_STRINGS" "Z") (.int 1)) (List.mem_of_getElem? (i := 4) rfl))) hA, (vx_Zqof (hts (Cond.laysStatic RJ3 "SIOOBE_FORMATTER" "Ljava/util/function/BiFunction;") (List.mem_append_right _ (lw_m3 136 rfl))) (hts (Cond.initialized RJ3) (List.mem_append_right _ (lw_m1 17 rfl))) (hs _ (by decide +kernel)) hA).1⟩
  match i, hi with
  | 0, _ => exact ⟨r0, t0⟩
  | 1, _ => exact ⟨r1, t1⟩
  | 2, _ => exact ⟨r2, t2⟩
  | 3, _ => exact ⟨r3, t3⟩
  | 4, _ => exact ⟨r4, t4⟩
  | 5, _ => exact ⟨r5, t5⟩
  | 6, _ => exact ⟨r6, t6⟩
  | 7, _ => exact ⟨r7, t7⟩
  | 8, _ => exact ⟨r8, t8⟩
  | i + 9, h => omega
set_option maxRecDepth 100000 in
theorem XX_of {D : va_G} {τ : Nat → ClassId} {A : Nat → Prop} {s : State} {b : Addr} (hts : ∀ w ∈ lw_tbl, w.before #[Value.ref b] s = true) (hgv : (Jvm.Cond.and given_1 narrow_1).before #[Value.ref b] s = true) (hK : va_K D vwCl (ty5 τ) s) (hA : ∀ a : Nat, a < s.heap.size → ¬ A a) : XX A s :=
  ⟨TX_of hts hgv hA, SX_of hts hK (List.mem_of_getElem? (i := 1248) rfl), SX_of hts hK (List.mem_of_getElem? (i := 1280) rfl), SX_of hts hK (List.mem_of_getElem? (i := 1288) rfl), SX_of hts hK (List.mem_of_getElem? (i := 1290) rfl), SX_of hts hK (List.mem_of_getElem? (i := 1298) rfl)⟩
end
section
/-! THE CLAIM OUT OF ONE WALK OF THE LAW'S BODY. Your part is whole_start (and what it stands on); all else here is the same for every law, but numbers. -/
def R_law : String := "BehindAnotherHearseLaw"
def lw_P (b : Addr) (xs : List Int32) (args : Array Value) (s : State) : Prop := args = #[.ref b] ∧ s.IntsAt b xs ∧ xs.length ≤ 2560 ∧ (Jvm.Cond.and given_1 narrow_1).before args s = true
def lw_Q (_ : Array Value) (s : State) (o : Outcome) (t : State) : Prop := o = .returned (some (.int 1)) ∧ Framed s o t [] 601024 7293034
def lw_Z (below : List Frame) (a : Array Value) (s : State) : State → Prop := fun t => ∃ o, t.status = .running ∧ Ended t below o ∧ lw_Q a s o t
/-- the law's own end, with 1 on the stack, nothing written that was there before, its room as the claim has it -/
theorem lw_ret {p : Program} {l : Launch} {e : Env} {s : State} {m : MethodId} {below : List Frame} {meth : Method} {c : Code} {b : Nat} (hx : p.tables.exec = Jvm.exec) (hb : c.code = code) (hr : meth.sig.returnType = ret) (hlocks : meth.locks = false) {pc : Nat} {H : Heap} {ls : Array Slot} (hdg : decode code pc = .ok (.ireturn, 1)) : W p l e room_1 s m #[Value.ref b] below meth c H [] 601024 7293034 (lw_Z below #[Value.ref b] s) (F0 m pc ls [.int 1]) := by
  intro T hT X
  obtain ⟨fs, hret, hrun, hended, hW, hframe⟩ := X.leave (v := some (.int 1)) (hlocks := hlocks) (fun h => by rw [hr] at h; cases h)
  have hmeth' : T.vm.method? m = some meth := X.method'
  refine ⟨T.setFrames fs, ?_, .returned (some (.int 1)), hrun, hended, rfl, ⟨_, rfl⟩, hW, hframe⟩
  jvm_step X.here [X.here.top, hx, hb, hdg, hmeth', hr, ret, narrow_b1]
  (try refine ⟨rfl, ?_⟩); (try refine ⟨rfl, ?_⟩)
  first | (intro acts; rw [hret _ acts rfl rfl rfl]) | rw [hret _ _ rfl rfl rfl]
  exact Steps.refl _
/-- what holds at the law's entry: the machine, the code, the tables' words (any of lw_tbl by 'hts w (by decide +kernel)'), the script of L ints xs at the cell b, what the Statement gives of the start (any of its parts by flat_of_before) -/
def lw_At (p : Program) (s : State) (m : MethodId) (meth : Method) (c : Code) (b L : Nat) (xs : Nat → Int32) : Prop :=
  p.tables.exec = Jvm.exec ∧ c.code = code ∧ meth.sig.returnType = ret ∧ c.maxLocals = 8 ∧ s.vm.findClass R_law = some m.cls ∧ (∀ w ∈ lw_tbl, w.before #[Value.ref b] s = true) ∧ va_X b L xs s s.heap ∧ b < s.heap.size ∧ meth.locks = false ∧ (Jvm.Cond.and given_1 narrow_1).before #[Value.ref b] s = true
end
section
/-! SPECS of the class: the small methods. Safety: no machine throw, invariants kept. -/
theorem up2_a (M : Mem) (k : Nat) (j v : Int) (k' : Nat) (j' : Int) : up2 M k j v k' j' = if k' = k then (if j' = j then v else M k' j') else M k' j' := by
  unfold up2 up
  by_cases h : k' = k
  · subst h; simp
  · simp [h]
theorem up2_n {M : Mem} {k : Nat} {j v : Int} {k' : Nat} (h : k' ≠ k) : up2 M k j v k' = M k' := by
  unfold up2
  rw [if_neg h]
theorem up2_s (M : Mem) (k : Nat) (j v : Int) : up2 M k j v k j = v := by unfold up2 up; simp
theorem up2_j {M : Mem} {k : Nat} {j v : Int} {j' : Int} (h : j' ≠ j) : up2 M k j v k j' = M k j' := by unfold up2 up; simp [h]
theorem cp2_n {M : Mem} {a b : Nat} {n : Int} {k : Nat} (h : k ≠ b) : cp2 M a b n k = M k := by unfold cp2; rw [if_neg h]
theorem cp2_s {M : Mem} {a b : Nat} {n : Int} {j : Int} (h0 : 0 ≤ j) (h1 : j < n) : cp2 M a b n b j = M a j := by unfold cp2 cpy; rw [if_pos rfl, if_pos ⟨h0, h1⟩]
/-- rows outside P are as before -/
def Fr (P : Nat → Prop) (M M' : Mem) : Prop := ∀ i, ¬ P i → M' i = M i
theorem Fr.rf {P : Nat → Prop} {M : Mem} : Fr P M M := fun _ _ => rfl
theorem Fr.tr {P : Nat → Prop} {M M1 M2 : Mem} (h : Fr P M M1) (h2 : Fr P M1 M2) : Fr P M M2 := fun i hi => (h2 i hi).trans (h i hi)
theorem Fr.mono {P P' : Nat → Prop} {M M' : Mem} (h : Fr P M M') (hP : ∀ i, P i → P' i) : Fr P' M M' := fun i hi => h i (fun q => hi (hP i q))
theorem Fr.up {P : Nat → Prop} {M M' : Mem} (h : Fr P M M') {k : Nat} {j v : Int} (hk : P k) : Fr P M (up2 M' k j v) := fun i hi => by
  rw [up2_n (fun q => hi (by rw [q]; exact hk))]
  exact h i hi
theorem Fr.cp {P : Nat → Prop} {M M' : Mem} (h : Fr P M M') {a b : Nat} {n : Int} (hk : P b) : Fr P M (cp2 M' a b n) := fun i hi => by
  rw [cp2_n (fun q => hi (by rw [q]; exact hk))]
  exact h i hi
-- bits
theorem oI_R (a b : Int) : iR (oI a b) := toInt_R _
theorem aI_255 (a : Int) : 0 ≤ aI a 255 ∧ aI a 255 ≤ 255 := by
  obtain ⟨j, hj, e⟩ := pk_andE (iI a) (m := 255) 8 (by decide)
  have h : aI a 255 = (nI j).toInt := by
    unfold aI
    rw [show iI 255 = (255 : Int32) from rfl, ← e]
  rw [h]
  have h2 : (nI j).toInt = j := iI_toInt (z := (j : Int)) ⟨by omega, by omega⟩
  rw [h2]
  omega
def BX (k : Nat) (j v : Int) : Prop := if k = 0 then True else if k < 155 then (if (k - 1) % 7 = 0 then (if j = 6 then 0 ≤ v ∧ v ≤ 6 else if j = 7 then 0 ≤ v ∧ v ≤ 8 else True) else if (k - 1) % 7 = 1 then -1 ≤ v ∧ v ≤ 29 else if (k - 1) % 7 = 3 then -1 ≤ v ∧ v ≤ 29 else if (k - 1) % 7 = 4 then 0 ≤ v ∧ v ≤ 5 else if (k - 1) % 7 = 5 then -1 ≤ v ∧ v ≤ 5 else True) else if k = 156 then (if j = 1 then 0 ≤ v ∧ v ≤ 80 else if j = 2 then 0 ≤ v ∧ v ≤ 80 else if j = 3 then 0 ≤ v ∧ v ≤ 80 else True) else if k = 157 then 0 ≤ v ∧ v ≤ 255 else if k = 158 then (if j = 1 then 4 ≤ v ∧ v ≤ 30 else if j = 3 then 0 ≤ v ∧ v ≤ 20 else True) else if k = 163 then (if j = 1 then 0 ≤ v ∧ v ≤ 14 else if j = 2 then 0 ≤ v ∧ v ≤ 15 else True) else if k = 167 then (if j = 1 then 0 ≤ v ∧ v ≤ 8 else True) else if k = 168 then (if j = 1 then 0 ≤ v ∧ v ≤ 30 else True) else if k = 179 then (if j = 2 then 0 ≤ v ∧ v ≤ 6 else True) else if k = 180 then 0 ≤ v ∧ v ≤ 29 else if k = 182 then (if j = 2 then 0 ≤ v ∧ v ≤ 8 else True) else if k = 185 then (if j = 1 then 0 ≤ v ∧ v ≤ 40 else if j = 2 then 0 ≤ v ∧ v ≤ 4 else True) else if 170 ≤ k ∧ k ≤ 178 then 0 ≤ v ∧ v ≤ 178 - (k : Int) else if k = 187 ∨ k = 192 then (if j = 4 then 0 ≤ v ∧ v ≤ 40 else True) else True
theorem bx_c156_1 {v : Int} : BX 156 1 v ↔ (0 ≤ v ∧ v ≤ 80) := by simp [BX]
theorem bx_c156_2 {v : Int} : BX 156 2 v ↔ (0 ≤ v ∧ v ≤ 80) := by simp [BX]
theorem bx_c156_3 {v : Int} : BX 156 3 v ↔ (0 ≤ v ∧ v ≤ 80) := by simp [BX]
theorem bx_c157 {j v : Int} : BX 157 j v ↔ (0 ≤ v ∧ v ≤ 255) := by simp [BX]
theorem bx_c158_1 {v : Int} : BX 158 1 v ↔ (4 ≤ v ∧ v ≤ 30) := by simp [BX]
theorem bx_c158_3 {v : Int} : BX 158 3 v ↔ (0 ≤ v ∧ v ≤ 20) := by simp [BX]
theorem bx_c163_1 {v : Int} : BX 163 1 v ↔ (0 ≤ v ∧ v ≤ 14) := by simp [BX]
theorem bx_c163_2 {v : Int} : BX 163 2 v ↔ (0 ≤ v ∧ v ≤ 15) := by simp [BX]
theorem bx_c167_1 {v : Int} : BX 167 1 v ↔ (0 ≤ v ∧ v ≤ 8) := by simp [BX]
theorem bx_c168_1 {v : Int} : BX 168 1 v ↔ (0 ≤ v ∧ v ≤ 30) := by simp [BX]
theorem bx_c179_2 {v : Int} : BX 179 2 v ↔ (0 ≤ v ∧ v ≤ 6) := by simp [BX]
theorem bx_c180 {j v : Int} : BX 180 j v ↔ (0 ≤ v ∧ v ≤ 29) := by simp [BX]
theorem bx_c182_2 {v : Int} : BX 182 2 v ↔ (0 ≤ v ∧ v ≤ 8) := by simp [BX]
theorem bx_c185_1 {v : Int} : BX 185 1 v ↔ (0 ≤ v ∧ v ≤ 40) := by simp [BX]
theorem bx_c185_2 {v : Int} : BX 185 2 v ↔ (0 ≤ v ∧ v ≤ 4) := by simp [BX]
theorem bx_s0_6 {k : Nat} (h : isS k) {v : Int} : BX k 6 v ↔ (0 ≤ v ∧ v ≤ 6) := by have h2 : 0 < k ∧ k < 155 ∧ (k - 1) % 7 = 0 := h; unfold BX; rw [if_neg (by omega), if_pos (by omega), if_pos (by omega)]; simp
theorem bx_s0_7 {k : Nat} (h : isS k) {v : Int} : BX k 7 v ↔ (0 ≤ v ∧ v ≤ 8) := by have h2 : 0 < k ∧ k < 155 ∧ (k - 1) % 7 = 0 := h; unfold BX; rw [if_neg (by omega), if_pos (by omega), if_pos (by omega)]; simp
theorem bx_sf0 {k : Nat} (h : isS k) {j v : Int} (h6 : j ≠ 6) (h7 : j ≠ 7) : BX k j v := by have h2 : 0 < k ∧ k < 155 ∧ (k - 1) % 7 = 0 := h; unfold BX; rw [if_neg (by omega), if_pos (by omega), if_pos (by omega), if_neg h6, if_neg h7]; trivial
theorem bx_s1 {k : Nat} (h : isS k) {j v : Int} : BX (k + 1) j v ↔ (-1 ≤ v ∧ v ≤ 29) := by have h2 : 0 < k ∧ k < 155 ∧ (k - 1) % 7 = 0 := h; unfold BX; rw [if_neg (by omega), if_pos (by omega), if_neg (by omega), if_pos (by omega)]
theorem bx_sf2 {k : Nat} (h : isS k) {j v : Int} : BX (k + 2) j v := by have h2 : 0 < k ∧ k < 155 ∧ (k - 1) % 7 = 0 := h; unfold BX; rw [if_neg (by omega), if_pos (by omega), if_neg (by omega), if_neg (by omega), if_neg (by omega), if_neg (by omega), if_neg (by omega)]; trivial
theorem bx_s3 {k : Nat} (h : isS k) {j v : Int} : BX (k + 3) j v ↔ (-1 ≤ v ∧ v ≤ 29) := by have h2 : 0 < k ∧ k < 155 ∧ (k - 1) % 7 = 0 := h; unfold BX; rw [if_neg (by omega), if_pos (by omega), if_neg (by omega), if_neg (by omega), if_pos (by omega)]
theorem bx_s4 {k : Nat} (h : isS k) {j v : Int} : BX (k + 4) j v ↔ (0 ≤ v ∧ v ≤ 5) := by have h2 : 0 < k ∧ k < 155 ∧ (k - 1) % 7 = 0 := h; unfold BX; rw [if_neg (by omega), if_pos (by omega), if_neg (by omega), if_neg (by omega), if_neg (by omega), if_pos (by omega)]
theorem bx_s5 {k : Nat} (h : isS k) {j v : Int} : BX (k + 5) j v ↔ (-1 ≤ v ∧ v ≤ 5) := by have h2 : 0 < k ∧ k < 155 ∧ (k - 1) % 7 = 0 := h; unfold BX; rw [if_neg (by omega), if_pos (by omega), if_neg (by omega), if_neg (by omega), if_neg (by omega), if_neg (by omega), if_pos (by omega)]
theorem bx_sf6 {k : Nat} (h : isS k) {j v : Int} : BX (k + 6) j v := by have h2 : 0 < k ∧ k < 155 ∧ (k - 1) % 7 = 0 := h; unfold BX; rw [if_neg (by omega), if_pos (by omega), if_neg (by omega), if_neg (by omega), if_neg (by omega), if_neg (by omega), if_neg (by omega)]; trivial
theorem bx_l4 {k : Nat} (h : isL k) {v : Int} : BX k 4 v ↔ (0 ≤ v ∧ v ≤ 40) := by rcases h with rfl | rfl <;> simp [BX]
theorem bx_lf0 {k : Nat} (h : isL k) {j v : Int} (h4 : j ≠ 4) : BX k j v := by rcases h with rfl | rfl <;> simp [BX, h4]
theorem bx_lf1 {k : Nat} (h : isL k) {j v : Int} : BX (k + 1) j v := by rcases h with rfl | rfl <;> simp [BX]
theorem bx_lf2 {k : Nat} (h : isL k) {j v : Int} : BX (k + 2) j v := by rcases h with rfl | rfl <;> simp [BX]
theorem bx_lf3 {k : Nat} (h : isL k) {j v : Int} : BX (k + 3) j v := by rcases h with rfl | rfl <;> simp [BX]
theorem bx_lf4 {k : Nat} (h : isL k) {j v : Int} : BX (k + 4) j v := by rcases h with rfl | rfl <;> simp [BX]
theorem bx_sh {e : Int} (h0 : 0 ≤ e) (h1 : e < 9) {j v : Int} : BX (170 + e.toNat) j v ↔ (0 ≤ v ∧ v ≤ 8 - e) := by
  unfold BX
  rw [if_neg (by omega), if_neg (by omega), if_neg (by omega), if_neg (by omega), if_neg (by omega), if_neg (by omega), if_neg (by omega), if_neg (by omega), if_neg (by omega), if_neg (by omega), if_neg (by omega), if_neg (by omega), if_pos (by omega)]
  have : ((170 + e.toNat : Nat) : Int) = 170 + e := by omega
  omega
abbrev nSp (k : Nat) : Prop := k ≠ 155 ∧ k ≠ 188 ∧ k ≠ 189 ∧ k ≠ 193 ∧ k ≠ 194
theorem isS.nsp {k : Nat} (h : isS k) (r : Nat) (hr : r < 7) : nSp (k + r) := by have h2 : 0 < k ∧ k < 155 ∧ (k - 1) % 7 = 0 := h; exact ⟨by omega, by omega, by omega, by omega, by omega⟩
theorem isL.nsp0 {k : Nat} (h : isL k) : nSp k := by rcases h with rfl | rfl <;> decide
theorem isL.nsp3 {k : Nat} (h : isL k) : nSp (k + 3) := by rcases h with rfl | rfl <;> decide
theorem isL.nsp4 {k : Nat} (h : isL k) : nSp (k + 4) := by rcases h with rfl | rfl <;> decide
theorem sh_nsp {e : Int} (h0 : 0 ≤ e) (h1 : e < 9) : nSp (170 + e.toNat) := ⟨by omega, by omega, by omega, by omega, by omega⟩
/-- the class's state is in its boxes -/
def IX (M : Mem) : Prop := (∀ k j, BX k j (M k j)) ∧ (M 155 16 = 187 ∧ M 155 17 = 192 ∨ M 155 16 = 192 ∧ M 155 17 = 187) ∧ ∀ k j, isL k → M (k + 1) j = 301 → 0 ≤ M (k + 2) j ∧ M (k + 2) j ≤ 6
theorem IX.bx {M : Mem} (h : IX M) (k : Nat) (j : Int) : BX k j (M k j) := h.1 k j
theorem IX.l16 {M : Mem} (h : IX M) : isL (M 155 16).toNat := by rcases h.2.1 with q | q <;> rw [q.1] <;> decide
theorem IX.l17 {M : Mem} (h : IX M) : isL (M 155 17).toNat := by rcases h.2.1 with q | q <;> rw [q.2] <;> decide
theorem IX.lt {M : Mem} (h : IX M) {k : Nat} (hk : isL k) {j : Int} (he : M (k + 1) j = 301) : 0 ≤ M (k + 2) j ∧ M (k + 2) j ≤ 6 := h.2.2 k j hk he
theorem BX.up {M : Mem} (h : ∀ k j, BX k j (M k j)) {k : Nat} {j v : Int} (hv : BX k j v) : ∀ k' j', BX k' j' (up2 M k j v k' j') := by
  intro k' j'
  rw [up2_a]
  by_cases c : k' = k
  · rw [if_pos c]
    by_cases c2 : j' = j
    · rw [if_pos c2, c, c2]; exact hv
    · rw [if_neg c2]; exact h k' j'
  · rw [if_neg c]; exact h k' j'
theorem BX.cp {M : Mem} (h : ∀ k j, BX k j (M k j)) {a b : Nat} {n : Int} (hv : ∀ j v, BX a j v → BX b j v) : ∀ k' j', BX k' j' (cp2 M a b n k' j') := by
  intro k' j'
  by_cases c : k' = b
  · subst c
    unfold cp2 cpy
    rw [if_pos rfl]
    by_cases c2 : 0 ≤ j' ∧ j' < n
    · rw [if_pos c2]; exact hv _ _ (h a j')
    · rw [if_neg c2]; exact h _ j'
  · rw [cp2_n c]; exact h k' j'
theorem IX.up {M : Mem} (h : IX M) {k : Nat} {j v : Int} (hk : nSp k) (hv : BX k j v) : IX (up2 M k j v) := by
  obtain ⟨a, b, c, d, e⟩ := hk
  refine ⟨BX.up h.1 hv, ?_, fun k' j' hk' => ?_⟩
  · rw [up2_n (Ne.symm a)]; exact h.2.1
  · rw [up2_n (by rcases hk' with rfl | rfl <;> omega), up2_n (by rcases hk' with rfl | rfl <;> omega)]; exact h.2.2 k' j' hk'
theorem IX.up15 {M : Mem} (h : IX M) {j v : Int} (hj : j = 15) : IX (up2 M 155 j v) := by
  subst hj
  refine ⟨BX.up h.1 (by simp [BX]), ?_, fun k' j' hk' => ?_⟩
  · rw [up2_j (by decide), up2_j (by decide)]; exact h.2.1
  · rw [up2_n (by rcases hk' with rfl | rfl <;> omega), up2_n (by rcases hk' with rfl | rfl <;> omega)]; exact h.2.2 k' j' hk'
theorem IX.cp {M : Mem} (h : IX M) {a b : Nat} {n : Int} (hk : nSp b) (hv : ∀ j v, BX a j v → BX b j v) : IX (cp2 M a b n) := by
  obtain ⟨q, r, c, d, e⟩ := hk
  refine ⟨BX.cp h.1 hv, ?_, fun k' j' hk' => ?_⟩
  · rw [cp2_n (Ne.symm q)]; exact h.2.1
  · rw [cp2_n (by rcases hk' with rfl | rfl <;> omega), cp2_n (by rcases hk' with rfl | rfl <;> omega)]; exact h.2.2 k' j' hk'
theorem IX.cp180_181 {M : Mem} (h : IX M) {n : Int} : IX (cp2 M 180 181 n) := h.cp (by decide) (fun j v _ => by simp [BX])
-- bits
theorem aI_1 (a : Int) : 0 ≤ aI a 1 ∧ aI a 1 ≤ 1 := by
  obtain ⟨j, hj, e⟩ := pk_andE (iI a) (m := 1) 1 (by decide)
  have h : aI a 1 = (nI j).toInt := by
    unfold aI
    rw [show iI 1 = (1 : Int32) from rfl, ← e]
  rw [h]
  have h2 : (nI j).toInt = j := iI_toInt (z := (j : Int)) ⟨by omega, by omega⟩
  rw [h2]
  omega
theorem aI_63 (a : Int) : 0 ≤ aI a 63 ∧ aI a 63 ≤ 63 := by
  obtain ⟨j, hj, e⟩ := pk_andE (iI a) (m := 63) 6 (by decide)
  have h : aI a 63 = (nI j).toInt := by
    unfold aI
    rw [show iI 63 = (63 : Int32) from rfl, ← e]
  rw [h]
  have h2 : (nI j).toInt = j := iI_toInt (z := (j : Int)) ⟨by omega, by omega⟩
  rw [h2]
  omega
theorem slI_1 {b : Int} (h : 0 ≤ b ∧ b ≤ 8) : 1 ≤ slI 1 b ∧ slI 1 b ≤ 256 ∧ (b ≤ 6 → slI 1 b ≤ 64) ∧ (b ≤ 5 → slI 1 b ≤ 32) := by
  have : b = 0 ∨ b = 1 ∨ b = 2 ∨ b = 3 ∨ b = 4 ∨ b = 5 ∨ b = 6 ∨ b = 7 ∨ b = 8 := by omega
  rcases this with rfl | rfl | rfl | rfl | rfl | rfl | rfl | rfl | rfl <;> decide
theorem oI_64n : ∀ n, n < 64 → ∀ m, m < 33 → 0 ≤ oI (n : Nat) (m : Nat) ∧ oI (n : Nat) (m : Nat) ≤ 63 := by decide +kernel
theorem oI_64 {a b : Int} (ha : 0 ≤ a ∧ a ≤ 63) (hb : 0 ≤ b ∧ b ≤ 32) : 0 ≤ oI a b ∧ oI a b ≤ 63 := by
  have h := oI_64n a.toNat (by omega) b.toNat (by omega)
  rw [show ((a.toNat : Nat) : Int) = a from by omega, show ((b.toNat : Nat) : Int) = b from by omega] at h
  exact h
theorem dvI_e {a b : Int} (ha : 0 ≤ a ∧ a ≤ 2147483647) (hb : 1 ≤ b ∧ b ≤ 2147483647) : dvI a b = a / b := by
  unfold dvI
  rw [Int32.toInt_div, iI_toInt ⟨by omega, by omega⟩, iI_toInt ⟨by omega, by omega⟩, Int.tdiv_eq_ediv_of_nonneg ha.1]
  have h0 : 0 ≤ a / b := Int.ediv_nonneg ha.1 (by omega)
  have h1 : a / b ≤ a := Int.ediv_le_self b ha.1
  exact Int.bmod_eq_of_le (by omega) (by omega)
theorem rmI_b {a b : Int} (ha : 0 ≤ a ∧ a ≤ 2147483647) (hb : 1 ≤ b ∧ b ≤ 2147483647) : 0 ≤ rmI a b ∧ rmI a b ≤ b - 1 := by
  have h0 : 0 ≤ a / b := Int.ediv_nonneg ha.1 (by omega)
  have h1 : a / b ≤ a := Int.ediv_le_self b ha.1
  have q : iI a / iI b = iI (a / b) := by
    rw [← iI_toI (iI a / iI b)]
    exact congrArg iI (dvI_e ha hb)
  have hm : a - a / b * b = a % b := by
    have := Int.emod_add_mul_ediv a b
    have e : a / b * b = b * (a / b) := Int.mul_comm _ _
    omega
  have hr0 : 0 ≤ a % b := Int.emod_nonneg a (by omega)
  have hr1 : a % b < b := Int.emod_lt_of_pos a (by omega)
  have e : rmI a b = a % b := by
    unfold rmI
    rw [q, ← hm]
    have : iI a - iI (a / b) * iI b = iI (a - a / b * b) := by
      unfold iI
      rw [Int32.ofInt_sub, Int32.ofInt_mul]
    rw [this]
    exact iI_toInt ⟨by omega, by omega⟩
  omega
theorem dvI_b {a b : Int} (ha : 0 ≤ a ∧ a ≤ 2147483647) (hb : 1 ≤ b ∧ b ≤ 2147483647) : 0 ≤ dvI a b ∧ dvI a b ≤ a := by
  rw [dvI_e ha hb]
  exact ⟨Int.ediv_nonneg ha.1 (by omega), Int.ediv_le_self b ha.1⟩
theorem usI_16 (a : Int) : 0 ≤ usI a 16 ∧ usI a 16 ≤ 65535 := by
  have e : usI a 16 = ((iI a).toUInt32 >>> (16 : UInt32)).toBitVec.toInt := rfl
  have hn : ((iI a).toUInt32 >>> (16 : UInt32)).toBitVec.toNat < 65536 := by
    show ((iI a).toUInt32 >>> (16 : UInt32)).toNat < 65536
    rw [UInt32.toNat_shiftRight]
    show (iI a).toUInt32.toNat >>> 16 < 65536
    rw [Nat.shiftRight_eq_div_pow]
    have := (iI a).toUInt32.toNat_lt
    omega
  rw [e, BitVec.toInt_eq_toNat_of_lt (by omega)]
  omega
theorem ixS_0 (c : Int) : -1 ≤ ixS (bS 0) c ∧ ixS (bS 0) c ≤ 6 := by
  show -1 ≤ ixF c [112, 103, 99, 119, 116, 105, 109] 0 ∧ ixF c [112, 103, 99, 119, 116, 105, 109] 0 ≤ 6
  simp only [ixF]
  repeat (first | decide | split)

theorem sX2_add {k0 : Nat} {p1 p2 : Int} {M : Mem} {Q : Mem → Prop} (hI : IX M) (hk0 : isL k0) (hp : p1 = 301 → 0 ≤ p2 ∧ p2 ≤ 6) (hQ : ∀ M' : Mem, IX M' → Fr (fun i => i = k0 ∨ i = k0 + 1 ∨ i = k0 + 2) M M' → Q M') : qX2_add k0 p1 p2 M Q := by
  unfold qX2_add
  intro x1 e1 r1
  refine ⟨fun c => hQ _ hI Fr.rf, fun c => ?_⟩
  intro x3 e3 r3
  have b3 : 0 ≤ x3 ∧ x3 ≤ 40 := by rw [e3]; exact (bx_l4 hk0).mp (hI.bx _ _)
  refine ⟨by omega, by omega, ?_⟩
  intro M6 h6 x7 e7 r7
  have f7 : x7 = x3 := by rw [e7, h6, up2_n (by omega), e3]
  refine ⟨by omega, by omega, ?_⟩
  intro M10 h10 x11 e11 r11
  have f11 : x11 = x3 := by rw [e11, h10, up2_n (by omega), h6, up2_n (by omega), e3]
  refine ⟨⟨by omega, by omega⟩, ?_⟩
  intro M13 h13
  refine hQ _ ?_ ?_
  · rw [h13, h10, h6]
    refine ⟨BX.up (BX.up (BX.up hI.1 (bx_lf1 hk0)) (bx_lf2 hk0)) ((bx_l4 hk0).mpr ⟨by omega, by omega⟩), ?_, fun k' j' hk' => ?_⟩
    · rw [up2_n (by rcases hk0 with rfl | rfl <;> omega), up2_n (by rcases hk0 with rfl | rfl <;> omega), up2_n (by rcases hk0 with rfl | rfl <;> omega)]
      exact hI.2.1
    · have hd : k' + 1 ≠ k0 ∧ k' + 1 ≠ k0 + 2 ∧ k' + 2 ≠ k0 ∧ k' + 2 ≠ k0 + 1 := by rcases hk' with rfl | rfl <;> rcases hk0 with rfl | rfl <;> omega
      rw [up2_n hd.1, up2_n hd.2.1, up2_n hd.2.2.1, f7, up2_a, up2_a, up2_n (k' := k' + 2) hd.2.2.2]
      by_cases c1 : k' = k0
      · subst c1
        rw [if_pos rfl, if_pos rfl]
        by_cases c2 : j' = x3
        · rw [if_pos c2, if_pos c2]; exact hp
        · rw [if_neg c2, if_neg c2]; exact hI.2.2 _ _ hk'
      · rw [if_neg (by omega), if_neg (by omega)]; exact hI.2.2 _ _ hk'
  · rw [h13, h10, h6]
    exact ((Fr.rf.up (by omega)).up (by omega)).up (by omega)
theorem sX6_copyFrom {k0 k1 : Nat} {M : Mem} {Q : Mem → Prop} (hI : IX M) (hk0 : isS k0) (hk1 : isS k1) (hQ : ∀ M' : Mem, IX M' → Fr (fun i => k0 ≤ i ∧ i ≤ k0 + 6) M M' → Q M') : qX6_copyFrom k0 k1 M Q := by
  have ek0 : 0 < k0 ∧ k0 < 155 ∧ (k0 - 1) % 7 = 0 := hk0
  have ek1 : 0 < k1 ∧ k1 < 155 ∧ (k1 - 1) % 7 = 0 := hk1
  unfold qX6_copyFrom
  intro M1 h1 M2 h2 M3 h3 M4 h4 M5 h5 M6 h6 x7 e7 _ M8 h8 x9 e9 _ M10 h10 x11 e11 _ M12 h12 x13 e13 _ M14 h14 x15 e15 _ M16 h16
  have i1 : IX M1 := by rw [h1]; exact hI.cp (hk0.nsp 1 (by decide)) (fun j v q => (bx_s1 hk0).mpr ((bx_s1 hk1).mp q))
  have i2 : IX M2 := by rw [h2]; exact i1.cp (hk0.nsp 2 (by decide)) (fun j v q => bx_sf2 hk0)
  have i3 : IX M3 := by rw [h3]; exact i2.cp (hk0.nsp 3 (by decide)) (fun j v q => (bx_s3 hk0).mpr ((bx_s3 hk1).mp q))
  have i4 : IX M4 := by rw [h4]; exact i3.cp (hk0.nsp 4 (by decide)) (fun j v q => (bx_s4 hk0).mpr ((bx_s4 hk1).mp q))
  have i5 : IX M5 := by rw [h5]; exact i4.cp (hk0.nsp 5 (by decide)) (fun j v q => (bx_s5 hk0).mpr ((bx_s5 hk1).mp q))
  have i6 : IX M6 := by rw [h6]; exact i5.cp (hk0.nsp 6 (by decide)) (fun j v q => bx_sf6 hk0)
  have b7 : 0 ≤ x7 ∧ x7 ≤ 6 := by rw [e7]; exact (bx_s0_6 hk1).mp (i6.bx _ _)
  have i8 : IX M8 := by rw [h8]; exact i6.up (hk0.nsp 0 (by decide)) ((bx_s0_6 hk0).mpr b7)
  have b9 : 0 ≤ x9 ∧ x9 ≤ 8 := by rw [e9]; exact (bx_s0_7 hk1).mp (i8.bx _ _)
  have i10 : IX M10 := by rw [h10]; exact i8.up (hk0.nsp 0 (by decide)) ((bx_s0_7 hk0).mpr b9)
  have i12 : IX M12 := by rw [h12]; exact i10.up (hk0.nsp 0 (by decide)) (bx_sf0 hk0 (by decide) (by decide))
  have i14 : IX M14 := by rw [h14]; exact i12.up (hk0.nsp 0 (by decide)) (bx_sf0 hk0 (by decide) (by decide))
  have i16 : IX M16 := by rw [h16]; exact i14.up (hk0.nsp 0 (by decide)) (bx_sf0 hk0 (by decide) (by decide))
  refine hQ _ i16 ?_
  rw [h16, h14, h12, h10, h8, h6, h5, h4, h3, h2, h1]
  exact ((((((((((Fr.rf.cp (by omega)).cp (by omega)).cp (by omega)).cp (by omega)).cp (by omega)).cp (by omega)).up (by omega)).up (by omega)).up (by omega)).up (by omega)).up (by omega)
end
section
theorem sX2_addLetter {k0 : Nat} {p1 : Int} {M : Mem} {Q : Mem → Prop} (hI : IX M) (hk0 : isL k0) (hp : 0 ≤ p1 ∧ p1 ≤ 6) (hQ : ∀ M' : Mem, IX M' → Fr (fun i => i = k0 ∨ i = k0 + 1 ∨ i = k0 + 2) M M' → Q M') : qX2_addLetter k0 p1 M Q := by
  unfold qX2_addLetter
  have ek0 : k0 = 187 ∨ k0 = 192 := hk0
  refine sX2_add (p1 := 301) (p2 := p1) hI hk0 (by omega) ?_
  intro M1_1 hM1_1 gM1_1
  have hFM1_1 : Fr (fun i => i = k0 ∨ i = k0 + 1 ∨ i = k0 + 2) M M1_1 := (Fr.rf).tr (gM1_1.mono (by intro i h; omega))
  intro x2_2 ex2_2 rx2_2
  have bx2_2 : -2147483648 ≤ x2_2 ∧ x2_2 ≤ 2147483647 := rx2_2
  intro x3_3 ex3_3 rx3_3
  first | (have fx3_3 := slI_1 (b := p1) (by omega); rw [← ex3_3] at fx3_3) | skip
  intro x4_4 ex4_4 rx4_4
  first | (have fx4_4 := oI_64 (a := x2_2) (b := x3_3) (by omega) (by omega); rw [← ex4_4] at fx4_4) | skip
  intro M5_5 h_M5_5
  have hM5_5 : IX M5_5 := by rw [h_M5_5]; exact hM1_1.up (isL.nsp0 hk0) (bx_lf0 hk0 (by decide))
  have hFM5_5 : Fr (fun i => i = k0 ∨ i = k0 + 1 ∨ i = k0 + 2) M M5_5 := by rw [h_M5_5]; exact (hFM1_1).up (by omega)
  exact hQ _ hM5_5 hFM5_5
theorem sX2_clear {k0 : Nat} {M : Mem} {Q : Mem → Prop} (hI : IX M) (hk0 : isL k0) (hQ : ∀ M' : Mem, IX M' → Q M') : qX2_clear k0 M Q := by
  unfold qX2_clear
  have ek0 : k0 = 187 ∨ k0 = 192 := hk0
  intro M1_6 h_M1_6
  have hM1_6 : IX M1_6 := by rw [h_M1_6]; exact hI.up (isL.nsp0 hk0) ((bx_l4 hk0).mpr (by omega))
  intro M2_7 h_M2_7
  have hM2_7 : IX M2_7 := by rw [h_M2_7]; exact hM1_6.up (isL.nsp0 hk0) (bx_lf0 hk0 (by decide))
  exact hQ _ hM2_7
theorem sX2_becomePlain {k0 : Nat} {M : Mem} {Q : Mem → Prop} (hI : IX M) (hk0 : isL k0) (hQ : ∀ M' : Mem, IX M' → Q M') : qX2_becomePlain k0 M Q := by
  unfold qX2_becomePlain
  have ek0 : k0 = 187 ∨ k0 = 192 := hk0
  refine sX2_clear  hI hk0 ?_
  intro M1_8 hM1_8
  refine sX2_add (p1 := 300) (p2 := 1) hM1_8 hk0 (by omega) ?_
  intro M2_9 hM2_9 gM2_9
  refine sX2_addLetter (p1 := 1) hM2_9 hk0 (by omega) ?_
  intro M3_10 hM3_10 gM3_10
  refine sX2_add (p1 := 300) (p2 := 2) hM3_10 hk0 (by omega) ?_
  intro M4_11 hM4_11 gM4_11
  refine sX2_add (p1 := 62) (p2 := 0) hM4_11 hk0 (by omega) ?_
  intro M5_12 hM5_12 gM5_12
  refine sX2_add (p1 := 43) (p2 := 0) hM5_12 hk0 (by omega) ?_
  intro M6_13 hM6_13 gM6_13
  exact hQ _ hM6_13
theorem sX8_gate  {M : Mem} {Q : Int → Mem → Prop} (hI : IX M) (hQ : ∀ z : Int, (3 ≤ z ∧ z ≤ 29 ∧ z = M 158 1 - 1) → Q z M) : qX8_gate M Q := by
  unfold qX8_gate
  intro x1_109 ex1_109 rx1_109
  have bx1_109 : 4 ≤ x1_109 ∧ x1_109 ≤ 30 := by rw [ex1_109]; exact (bx_c158_1).mp (hI.bx _ _)
  refine ⟨(by first | assumption | exact (by omega)), ?_⟩
  exact hQ _ (by omega)
theorem sX9_look  {M : Mem} {Q : Int → Mem → Prop} (hI : IX M) (hQ : ∀ z : Int, (-1 ≤ z ∧ z ≤ 255) → Q z M) : qX9_look M Q := by
  unfold qX9_look
  intro x1_115 ex1_115 rx1_115
  have bx1_115 : 0 ≤ x1_115 ∧ x1_115 ≤ 80 := by rw [ex1_115]; exact (bx_c156_2).mp (hI.bx _ _)
  intro x2_116 ex2_116 rx2_116
  have bx2_116 : 0 ≤ x2_116 ∧ x2_116 ≤ 80 := by rw [ex2_116]; exact (bx_c156_3).mp (hI.bx _ _)
  refine ⟨fun c => ?_, fun c => ?_⟩
  · exact hQ _ (by omega)
  · intro x4_119 ex4_119 rx4_119
    have bx4_119 : 0 ≤ x4_119 ∧ x4_119 ≤ 80 := by rw [ex4_119]; exact (bx_c156_2).mp (hI.bx _ _)
    refine ⟨by omega, ?_⟩
    refine ⟨by omega, ?_⟩
    intro x7_120 ex7_120 rx7_120
    have bx7_120 : 0 ≤ x7_120 ∧ x7_120 ≤ 255 := by rw [ex7_120]; exact (bx_c157).mp (hI.bx _ _)
    exact hQ _ (by omega)
theorem sX9_pass  {M : Mem} {Q : Mem → Prop} (hI : IX M) (hQ : ∀ M' : Mem, IX M' → Fr (fun i => i = 156) M M' → Q M') : qX9_pass M Q := by
  unfold qX9_pass
  intro x1_121 ex1_121 rx1_121
  have bx1_121 : 0 ≤ x1_121 ∧ x1_121 ≤ 80 := by rw [ex1_121]; exact (bx_c156_2).mp (hI.bx _ _)
  intro x2_122 ex2_122 rx2_122
  have bx2_122 : 0 ≤ x2_122 ∧ x2_122 ≤ 80 := by rw [ex2_122]; exact (bx_c156_3).mp (hI.bx _ _)
  refine ⟨fun c => ?_, fun c => ?_⟩
  · exact hQ _ hI Fr.rf
  · intro x4_125 ex4_125 rx4_125
    have bx4_125 : 0 ≤ x4_125 ∧ x4_125 ≤ 80 := by rw [ex4_125]; exact (bx_c156_2).mp (hI.bx _ _)
    refine ⟨(by first | assumption | exact (by omega)), ?_⟩
    intro M6_126 h_M6_126
    have hM6_126 : IX M6_126 := by rw [h_M6_126]; exact hI.up (by decide) ((bx_c156_2).mpr (by omega))
    have hFM6_126 : Fr (fun i => i = 156) M M6_126 := by rw [h_M6_126]; exact (Fr.rf).up (by omega)
    exact hQ _ hM6_126 hFM6_126
theorem sX9_digit  {M : Mem} {Q : Int → Mem → Prop} (hI : IX M) (hQ : ∀ z : Int, ∀ M' : Mem, IX M' → Fr (fun i => i = 156) M M' → (-1 ≤ z ∧ z ≤ 9) → Q z M') : qX9_digit M Q := by
  unfold qX9_digit
  refine sX9_look  hI  ?_
  intro x1_127 p128 q129
  refine ⟨fun c => ?_, fun c => ?_⟩
  · exact hQ _ _ hI Fr.rf (by omega)
  · refine ⟨fun c => ?_, fun c => ?_⟩
    · refine sX9_pass  hI  ?_
      intro M4_133 hM4_133 gM4_133
      have hFM4_133 : Fr (fun i => i = 156) M M4_133 := (Fr.rf).tr (gM4_133.mono (by intro i h; omega))
      refine ⟨(by first | assumption | exact (by omega)), ?_⟩
      exact hQ _ _ hM4_133 hFM4_133 (by omega)
    · exact hQ _ _ hI Fr.rf (by omega)
theorem sX9_number_L10 {p1 : Int}  {Q : Int → Mem → Prop} {M0 : Mem} (hp : p1 = 2 ∨ p1 = 3) (hQ : ∀ z : Int, ∀ M' : Mem, IX M' → Fr (fun i => i = 156) M0 M' → (-1 ≤ z ∧ z ≤ 999 ∧ (p1 = 2 → z ≤ 99)) → Q z M') : ∀ (n : Nat) (v2 v3 v4 : Int) (M : Mem), IX M → Fr (fun i => i = 156) M0 M → (1 ≤ v4 ∧ v4 ≤ p1 ∧ -1 ≤ v3 ∧ v3 ≤ 9 ∧ -1 ≤ v2 ∧ v2 ≤ 999 ∧ (v4 = 1 → v2 ≤ 9) ∧ (v4 = 2 → v2 ≤ 99) ∧ (v3 = -1 ∨ 0 ≤ v2)) → 4 - v4 < (n : Int) → qX9_number_L10 p1 Q n v2 v3 v4 M := by
  intro n
  induction n with
  | zero => intro v2 v3 v4 M hI hF hv hm; exact absurd hm (by omega)
  | succ n ih =>
    intro v2 v3 v4 M hI hF hv hm
    rw [qX9_number_L10]
    refine ⟨(by first | assumption | exact (by omega)), ?_⟩
    refine ⟨fun c => ?_, fun c => ?_⟩
    · refine ⟨(by first | assumption | exact (by omega)), ?_⟩
      exact hQ _ _ hI hF (by omega)
    · refine ⟨(by first | assumption | exact (by omega)), ?_⟩
      refine ⟨fun c => ?_, fun c => ?_⟩
      · refine ⟨(by first | assumption | exact (by omega)), ?_⟩
        exact hQ _ _ hI hF (by omega)
      · refine sX9_digit  hI  ?_
        intro x8_139 M8_140 hM8_140 gM8_140 p141 q142
        have hFM8_140 : Fr (fun i => i = 156) M0 M8_140 := (hF).tr (gM8_140.mono (by intro i h; omega))
        refine ⟨fun c => ?_, fun c => ?_⟩
        · exact ih _ _ _ _ hM8_140 hFM8_140 (by omega) (by omega)
        · exact ih _ _ _ _ hM8_140 hFM8_140 (by omega) (by omega)
theorem sX9_number {p1 : Int} {M : Mem} {Q : Int → Mem → Prop} (hI : IX M) (hp : p1 = 2 ∨ p1 = 3) (hQ : ∀ z : Int, ∀ M' : Mem, IX M' → Fr (fun i => i = 156) M M' → (-1 ≤ z ∧ z ≤ 999 ∧ (p1 = 2 → z ≤ 99)) → Q z M') : qX9_number p1 M Q := by
  unfold qX9_number
  refine sX9_digit  hI  ?_
  intro x1_145 M1_146 hM1_146 gM1_146 p147 q148
  have hFM1_146 : Fr (fun i => i = 156) M M1_146 := (Fr.rf).tr (gM1_146.mono (by intro i h; omega))
  refine ⟨5, ?_⟩
  refine sX9_number_L10 hp ?_ _ _ _ _ _ hM1_146 hFM1_146 (by omega) (by omega)
  · exact hQ
theorem sX6_hearseOn_L2 {k0 : Nat} {p1 : Int}  {Q : Int → Mem → Prop} {M0 : Mem} (hk0 : isS k0) (hQ : ∀ z : Int, (-1 ≤ z ∧ z ≤ 5) → Q z M0) : ∀ (n : Nat) (v2 : Int), IX M0 → (0 ≤ v2 ∧ v2 ≤ 6) → 6 - v2 < (n : Int) → qX6_hearseOn_L2 k0 p1 Q n v2 M0 := by
  intro n
  induction n with
  | zero => intro v2 hI hv hm; exact absurd hm (by omega)
  | succ n ih =>
    intro v2 hI hv hm
    rw [qX6_hearseOn_L2]
    have ek0 : 0 < k0 ∧ k0 < 155 ∧ (k0 - 1) % 7 = 0 := hk0
    intro x1_165 ex1_165 rx1_165
    have bx1_165 : 0 ≤ x1_165 ∧ x1_165 ≤ 6 := by rw [ex1_165]; exact (bx_s0_6 hk0).mp (hI.bx _ _)
    refine ⟨(by first | assumption | exact (by omega)), ?_⟩
    refine ⟨fun c => ?_, fun c => ?_⟩
    · exact hQ _ (by omega)
    · refine ⟨by omega, ?_⟩
      refine ⟨by omega, ?_⟩
      intro x6_168 ex6_168 rx6_168
      have bx6_168 : -1 ≤ x6_168 ∧ x6_168 ≤ 29 := by rw [ex6_168]; exact (bx_s1 hk0).mp (hI.bx _ _)
      refine ⟨fun c => ?_, fun c => ?_⟩
      · exact ih _ hI (by omega) (by omega)
      · exact hQ _ (by omega)
theorem sX6_hearseOn {k0 : Nat} {p1 : Int} {M : Mem} {Q : Int → Mem → Prop} (hI : IX M) (hk0 : isS k0) (hQ : ∀ z : Int, (-1 ≤ z ∧ z ≤ 5) → Q z M) : qX6_hearseOn k0 p1 M Q := by
  unfold qX6_hearseOn
  have ek0 : 0 < k0 ∧ k0 < 155 ∧ (k0 - 1) % 7 = 0 := hk0
  refine ⟨7, ?_⟩
  refine sX6_hearseOn_L2 hk0 ?_ _ _ hI (by omega) (by omega)
  · exact hQ
theorem sX9_isWhole  {M : Mem} {Q : Int → Mem → Prop} (hI : IX M) (hQ : ∀ z : Int, Q z M) : qX9_isWhole M Q := by
  unfold qX9_isWhole
  intro x1_220 ex1_220 rx1_220
  have bx1_220 : 0 ≤ x1_220 ∧ x1_220 ≤ 80 := by rw [ex1_220]; exact (bx_c156_2).mp (hI.bx _ _)
  intro x2_221 ex2_221 rx2_221
  have bx2_221 : 0 ≤ x2_221 ∧ x2_221 ≤ 80 := by rw [ex2_221]; exact (bx_c156_1).mp (hI.bx _ _)
  refine ⟨fun c => ?_, fun c => ?_⟩
  · exact hQ _
  · exact hQ _
theorem sX9_open {p1 : Int} {M : Mem} {Q : Mem → Prop} (hI : IX M) (hp : 0 ≤ p1 ∧ p1 ≤ 80) (hQ : ∀ M' : Mem, IX M' → Fr (fun i => i = 156) M M' → Q M') : qX9_open p1 M Q := by
  unfold qX9_open
  intro M1_224 h_M1_224
  have hM1_224 : IX M1_224 := by rw [h_M1_224]; exact hI.up (by decide) ((bx_c156_2).mpr (by omega))
  have hFM1_224 : Fr (fun i => i = 156) M M1_224 := by rw [h_M1_224]; exact (Fr.rf).up (by omega)
  intro x2_225 ex2_225 rx2_225
  have bx2_225 : 0 ≤ x2_225 ∧ x2_225 ≤ 80 := by rw [ex2_225]; exact (bx_c156_1).mp (hM1_224.bx _ _)
  have fx2_225 : x2_225 = M 156 1 := by rw [ex2_225, h_M1_224, up2_j (by decide)]
  intro x3_226 ex3_226 rx3_226
  intro M4_227 h_M4_227
  have hM4_227 : IX M4_227 := by rw [h_M4_227]; exact hM1_224.up (by decide) ((bx_c156_3).mpr (by omega))
  have hFM4_227 : Fr (fun i => i = 156) M M4_227 := by rw [h_M4_227]; exact (hFM1_224).up (by omega)
  exact hQ _ hM4_227 hFM4_227
theorem sX9_isEmpty  {M : Mem} {Q : Int → Mem → Prop} (hI : IX M) (hQ : ∀ z : Int, Q z M) : qX9_isEmpty M Q := by
  unfold qX9_isEmpty
  intro x1_289 ex1_289 rx1_289
  have bx1_289 : 0 ≤ x1_289 ∧ x1_289 ≤ 80 := by rw [ex1_289]; exact (bx_c156_1).mp (hI.bx _ _)
  refine ⟨fun c => ?_, fun c => ?_⟩
  · exact hQ _
  · exact hQ _
end
section
theorem sX5_bindingOf {p0 : Int} {M : Mem} {Q : Int → Mem → Prop} (hI : IX M) (hQ : ∀ z : Int, (0 ≤ z ∧ z ≤ 4 ∧ (1 ≤ z → ¬ p0 = 40 ∧ ¬ p0 = 301)) → Q z M) : qX5_bindingOf p0 M Q := by
  unfold qX5_bindingOf
  refine ⟨fun c => ?_, fun c => ?_, fun c => ?_, fun c => ?_, fun c => ?_, fun c => ?_, fun c => ?_, fun c => ?_, fun c => ?_⟩
  · exact hQ _ (by omega)
  · exact hQ _ (by omega)
  · exact hQ _ (by omega)
  · exact hQ _ (by omega)
  · exact hQ _ (by omega)
  · exact hQ _ (by omega)
  · exact hQ _ (by omega)
  · exact hQ _ (by omega)
  · exact hQ _ (by omega)
theorem sX5_latestBinding  {M : Mem} {Q : Int → Mem → Prop} (hI : IX M) (hQ : ∀ z : Int, Q z M) : qX5_latestBinding M Q := by
  unfold qX5_latestBinding
  intro x1_361 ex1_361 rx1_361
  have bx1_361 : 0 ≤ x1_361 ∧ x1_361 ≤ 40 := by rw [ex1_361]; exact (bx_c185_1).mp (hI.bx _ _)
  refine ⟨fun c => ?_, fun c => ?_⟩
  · exact hQ _
  · intro x3_364 ex3_364 rx3_364
    have bx3_364 : 0 ≤ x3_364 ∧ x3_364 ≤ 40 := by rw [ex3_364]; exact (bx_c185_1).mp (hI.bx _ _)
    refine ⟨by omega, ?_⟩
    refine ⟨by omega, ?_⟩
    intro x6_365 ex6_365 rx6_365
    have bx6_365 : -2147483648 ≤ x6_365 ∧ x6_365 ≤ 2147483647 := rx6_365
    refine sX5_bindingOf (p0 := x6_365) hI  ?_
    intro x7_366 p367 q368
    exact hQ _
theorem sX9_isRead  {M : Mem} {Q : Int → Mem → Prop} (hI : IX M) (hQ : ∀ z : Int, Q z M) : qX9_isRead M Q := by
  unfold qX9_isRead
  intro x1_369 ex1_369 rx1_369
  have bx1_369 : 0 ≤ x1_369 ∧ x1_369 ≤ 80 := by rw [ex1_369]; exact (bx_c156_2).mp (hI.bx _ _)
  intro x2_370 ex2_370 rx2_370
  have bx2_370 : 0 ≤ x2_370 ∧ x2_370 ≤ 80 := by rw [ex2_370]; exact (bx_c156_3).mp (hI.bx _ _)
  refine ⟨fun c => ?_, fun c => ?_⟩
  · exact hQ _
  · exact hQ _
theorem sX6_hasEnded {k0 : Nat} {p1 : Int} {M : Mem} {Q : Int → Mem → Prop} (hI : IX M) (hk0 : isS k0) (hp : 0 ≤ p1 ∧ p1 ≤ 7) (hQ : ∀ z : Int, Q z M) : qX6_hasEnded k0 p1 M Q := by
  unfold qX6_hasEnded
  have ek0 : 0 < k0 ∧ k0 < 155 ∧ (k0 - 1) % 7 = 0 := hk0
  refine ⟨by omega, ?_⟩
  refine ⟨by omega, ?_⟩
  intro x3_393 ex3_393 rx3_393
  have bx3_393 : -2147483648 ≤ x3_393 ∧ x3_393 ≤ 2147483647 := rx3_393
  refine ⟨fun c => ?_, fun c => ?_⟩
  · exact hQ _
  · exact hQ _
theorem sX10_goal_L15 {p1 : Int} {p2 : Int} {p3 : Int}  {Q : Int → Mem → Prop} {M0 : Mem} (hp : 0 ≤ p2 ∧ p2 ≤ 29 ∧ 0 ≤ p3 ∧ p3 ≤ 3) (hQ : ∀ z : Int, (z = -1 ∨ p2 < z ∧ z ≤ 29) → Q z M0) : ∀ (n : Nat) (v4 : Int), IX M0 → (-1 ≤ v4 ∧ v4 ≤ 29) → v4 + 1 < (n : Int) → qX10_goal_L15 p1 p2 p3 Q n v4 M0 := by
  intro n
  induction n with
  | zero => intro v4 hI hv hm; exact absurd hm (by omega)
  | succ n ih =>
    intro v4 hI hv hm
    rw [qX10_goal_L15]
    refine ⟨(by first | assumption | exact (by omega)), ?_⟩
    refine ⟨fun c => ?_, fun c => ?_⟩
    · exact hQ _ (by omega)
    · intro x6_455 ex6_455 rx6_455
      intro x7_456 ex7_456 rx7_456
      first | (have fx7_456 := slI_1 (b := p2) (by omega); rw [← ex7_456] at fx7_456) | skip
      intro x8_457 ex8_457 rx8_457
      first | (have fx8_457 := slI_1 (b := v4) (by omega); rw [← ex8_457] at fx8_457) | skip
      intro x9_458 ex9_458 rx9_458
      intro x10_459 ex10_459 rx10_459
      intro x11_460 ex11_460 rx11_460
      have fx11_460 := aI_1 x10_459; rw [← ex11_460] at fx11_460
      refine ⟨fun c => ?_, fun c => ?_⟩
      · unfold qX10_goal_J55
        refine ⟨(by first | assumption | exact (by omega)), ?_⟩
        refine ⟨fun c => ?_, fun c => ?_⟩
        · exact ih _ hI (by omega) (by omega)
        · intro x15_464 ex15_464 rx15_464
          refine ⟨fun c => ?_, fun c => ?_⟩
          · refine ⟨(by first | assumption | exact (by omega)), ?_⟩
            exact hQ _ (by omega)
          · intro x18_467 ex18_467 rx18_467
            have bx18_467 : -2147483648 ≤ x18_467 ∧ x18_467 ≤ 2147483647 := rx18_467
            intro x19_468 ex19_468 rx19_468
            refine ⟨fun c => ?_, fun c => ?_⟩
            · exact ih _ hI (by omega) (by omega)
            · refine ⟨(by first | assumption | exact (by omega)), ?_⟩
              exact hQ _ (by omega)
      · unfold qX10_goal_J55
        refine ⟨(by first | assumption | exact (by omega)), ?_⟩
        refine ⟨fun c => ?_, fun c => ?_⟩
        · exact ih _ hI (by omega) (by omega)
        · intro x15_474 ex15_474 rx15_474
          refine ⟨fun c => ?_, fun c => ?_⟩
          · refine ⟨(by first | assumption | exact (by omega)), ?_⟩
            exact hQ _ (by omega)
          · intro x18_477 ex18_477 rx18_477
            have bx18_477 : -2147483648 ≤ x18_477 ∧ x18_477 ≤ 2147483647 := rx18_477
            intro x19_478 ex19_478 rx19_478
            refine ⟨fun c => ?_, fun c => ?_⟩
            · exact ih _ hI (by omega) (by omega)
            · refine ⟨(by first | assumption | exact (by omega)), ?_⟩
              exact hQ _ (by omega)
theorem sX10_goal {p1 : Int} {p2 : Int} {p3 : Int} {M : Mem} {Q : Int → Mem → Prop} (hI : IX M) (hp : 0 ≤ p2 ∧ p2 ≤ 29 ∧ 0 ≤ p3 ∧ p3 ≤ 3) (hQ : ∀ z : Int, (z = -1 ∨ p2 < z ∧ z ≤ 29) → Q z M) : qX10_goal p1 p2 p3 M Q := by
  unfold qX10_goal
  refine sX8_gate  hI  ?_
  intro x1_481 p482 q483
  refine ⟨(by first | assumption | exact (by omega)), ?_⟩
  intro x3_484 ex3_484 rx3_484
  refine ⟨31, ?_⟩
  refine sX10_goal_L15 hp ?_ _ _ hI (by omega) (by omega)
  · exact hQ
theorem sJ6_bitCount_0f7a4 {p0 : Int} {M : Mem} {Q : Int → Mem → Prop} (hI : IX M) (hQ : ∀ z : Int, (0 ≤ z ∧ z ≤ 63) → Q z M) : qJ6_bitCount_0f7a4 p0 M Q := by
  unfold qJ6_bitCount_0f7a4
  intro x1_485 ex1_485 rx1_485
  intro x2_486 ex2_486 rx2_486
  intro x3_487 ex3_487 rx3_487
  intro x4_488 ex4_488 rx4_488
  intro x5_489 ex5_489 rx5_489
  intro x6_490 ex6_490 rx6_490
  intro x7_491 ex7_491 rx7_491
  intro x8_492 ex8_492 rx8_492
  intro x9_493 ex9_493 rx9_493
  have fx9_493 := usI_16 (x7_491 + x8_492); rw [← ex9_493] at fx9_493
  intro x10_494 ex10_494 rx10_494
  have fx10_494 := aI_63 (x7_491 + x8_492 + x9_493); rw [← ex10_494] at fx10_494
  exact hQ _ (by omega)
theorem sX2_uses {k0 : Nat} {p1 : Int} {M : Mem} {Q : Int → Mem → Prop} (hI : IX M) (hk0 : isL k0) (hQ : ∀ z : Int, Q z M) : qX2_uses k0 p1 M Q := by
  unfold qX2_uses
  have ek0 : k0 = 187 ∨ k0 = 192 := hk0
  intro x1_495 ex1_495 rx1_495
  have bx1_495 : -2147483648 ≤ x1_495 ∧ x1_495 ≤ 2147483647 := rx1_495
  intro x2_496 ex2_496 rx2_496
  intro x3_497 ex3_497 rx3_497
  have fx3_497 := aI_1 x2_496; rw [← ex3_497] at fx3_497
  refine ⟨fun c => ?_, fun c => ?_⟩
  · exact hQ _
  · exact hQ _
theorem sX6_bitsOf_L5 {k0 : Nat} {k1 : Nat} {p2 : Int}  {Q : Int → Mem → Prop} {M0 : Mem} (hk0 : isS k0) (hQ : ∀ z : Int, Q z M0) : ∀ (n : Nat) (v3 v4 : Int), IX M0 → (0 ≤ v4 ∧ v4 ≤ 8) → iR v3 → 8 - v4 < (n : Int) → qX6_bitsOf_L5 k0 k1 p2 Q n v3 v4 M0 := by
  intro n
  induction n with
  | zero => intro v3 v4 hI hv hrv3 hm; exact absurd hm (by omega)
  | succ n ih =>
    intro v3 v4 hI hv hrv3 hm
    rw [qX6_bitsOf_L5]
    have ek0 : 0 < k0 ∧ k0 < 155 ∧ (k0 - 1) % 7 = 0 := hk0
    intro x1_500 ex1_500 rx1_500
    have bx1_500 : 0 ≤ x1_500 ∧ x1_500 ≤ 8 := by rw [ex1_500]; exact (bx_s0_7 hk0).mp (hI.bx _ _)
    refine ⟨(by first | assumption | exact (by omega)), ?_⟩
    refine ⟨fun c => ?_, fun c => ?_⟩
    · refine ⟨(by first | assumption | exact (by omega)), ?_⟩
      exact hQ _
    · refine ⟨by omega, ?_⟩
      refine ⟨by omega, ?_⟩
      intro x7_503 ex7_503 rx7_503
      have bx7_503 : -2147483648 ≤ x7_503 ∧ x7_503 ≤ 2147483647 := rx7_503
      refine ⟨fun c => ?_, fun c => ?_⟩
      · intro x9_505 ex9_505 rx9_505
        first | (have fx9_505 := oI_64 (a := v3) (b := 0) (by omega) (by omega); rw [← ex9_505] at fx9_505) | skip
        exact ih _ _ hI (by omega) (by first | assumption | exact (by omega)) (by omega)
      · intro x10_507 ex10_507 rx10_507
        first | (have fx10_507 := slI_1 (b := v4) (by omega); rw [← ex10_507] at fx10_507) | skip
        intro x11_508 ex11_508 rx11_508
        first | (have fx11_508 := oI_64 (a := v3) (b := x10_507) (by omega) (by omega); rw [← ex11_508] at fx11_508) | skip
        exact ih _ _ hI (by omega) (by first | assumption | exact (by omega)) (by omega)
theorem sX6_bitsOf {k0 : Nat} {k1 : Nat} {p2 : Int} {M : Mem} {Q : Int → Mem → Prop} (hI : IX M) (hk0 : isS k0) (hQ : ∀ z : Int, Q z M) : qX6_bitsOf k0 k1 p2 M Q := by
  unfold qX6_bitsOf
  have ek0 : 0 < k0 ∧ k0 < 155 ∧ (k0 - 1) % 7 = 0 := hk0
  refine ⟨9, ?_⟩
  refine sX6_bitsOf_L5 hk0 ?_ _ _ _ hI (by omega) (by first | assumption | exact (by omega)) (by omega)
  · exact hQ
theorem sX6_freeAhead_L15 {k0 : Nat} {p1 : Int} {p2 : Int}  {Q : Int → Mem → Prop} {M0 : Mem} (hk0 : isS k0) (hp : 0 ≤ p1 ∧ p1 ≤ 5 ∧ 0 ≤ p2 ∧ p2 ≤ 29) (hQ : ∀ z : Int, Q z M0) : ∀ (n : Nat) (v3 v4 v5 : Int), IX M0 → (-1 ≤ v3 ∧ v3 ≤ 29 ∧ -60 ≤ v4 ∧ v4 ≤ 60 ∧ 0 ≤ v5 ∧ v5 ≤ 6) → 6 - v5 < (n : Int) → qX6_freeAhead_L15 k0 p1 p2 Q n v3 v4 v5 M0 := by
  intro n
  induction n with
  | zero => intro v3 v4 v5 hI hv hm; exact absurd hm (by omega)
  | succ n ih =>
    intro v3 v4 v5 hI hv hm
    rw [qX6_freeAhead_L15]
    have ek0 : 0 < k0 ∧ k0 < 155 ∧ (k0 - 1) % 7 = 0 := hk0
    intro x4_509 ex4_509 rx4_509
    have bx4_509 : 0 ≤ x4_509 ∧ x4_509 ≤ 6 := by rw [ex4_509]; exact (bx_s0_6 hk0).mp (hI.bx _ _)
    refine ⟨(by first | assumption | exact (by omega)), ?_⟩
    refine ⟨fun c => ?_, fun c => ?_⟩
    · refine ⟨(by first | assumption | exact (by omega)), ?_⟩
      exact hQ _
    · refine ⟨by omega, ?_⟩
      refine ⟨by omega, ?_⟩
      intro x10_512 ex10_512 rx10_512
      have bx10_512 : -1 ≤ x10_512 ∧ x10_512 ≤ 29 := by rw [ex10_512]; exact (bx_s1 hk0).mp (hI.bx _ _)
      refine ⟨(by first | assumption | exact (by omega)), ?_⟩
      refine ⟨fun c => ?_, fun c => ?_⟩
      · exact ih _ _ _ hI (by omega) (by omega)
      · refine ⟨(by first | assumption | exact (by omega)), ?_⟩
        refine ⟨fun c => ?_, fun c => ?_⟩
        · exact ih _ _ _ hI (by omega) (by omega)
        · exact ih _ _ _ hI (by omega) (by omega)
theorem sX6_freeAhead {k0 : Nat} {p1 : Int} {p2 : Int} {M : Mem} {Q : Int → Mem → Prop} (hI : IX M) (hk0 : isS k0) (hp : 0 ≤ p1 ∧ p1 ≤ 5 ∧ 0 ≤ p2 ∧ p2 ≤ 29) (hQ : ∀ z : Int, Q z M) : qX6_freeAhead k0 p1 p2 M Q := by
  unfold qX6_freeAhead
  have ek0 : 0 < k0 ∧ k0 < 155 ∧ (k0 - 1) % 7 = 0 := hk0
  refine ⟨by omega, ?_⟩
  refine ⟨by omega, ?_⟩
  intro x3_517 ex3_517 rx3_517
  have bx3_517 : -1 ≤ x3_517 ∧ x3_517 ≤ 29 := by rw [ex3_517]; exact (bx_s1 hk0).mp (hI.bx _ _)
  refine ⟨7, ?_⟩
  refine sX6_freeAhead_L15 hk0 hp ?_ _ _ _ _ hI (by omega) (by omega)
  · exact hQ
theorem sX8_isCorner {p1 : Int} {M : Mem} {Q : Int → Mem → Prop} (hI : IX M) (hQ : ∀ z : Int, Q z M) : qX8_isCorner p1 M Q := by
  unfold qX8_isCorner
  intro x1_518 ex1_518 rx1_518
  have bx1_518 : -2147483648 ≤ x1_518 ∧ x1_518 ≤ 2147483647 := rx1_518
  intro x2_519 ex2_519 rx2_519
  intro x3_520 ex3_520 rx3_520
  have fx3_520 := aI_1 x2_519; rw [← ex3_520] at fx3_520
  refine ⟨fun c => ?_, fun c => ?_⟩
  · exact hQ _
  · exact hQ _
theorem sX8_weatherAt {p1 : Int} {M : Mem} {Q : Int → Mem → Prop} (hI : IX M) (hp : -2147483648 ≤ p1 ∧ p1 ≤ 2147483647) (hQ : ∀ z : Int, Q z M) : qX8_weatherAt p1 M Q := by
  unfold qX8_weatherAt
  intro x1_523 ex1_523 rx1_523
  have bx1_523 : 0 ≤ x1_523 ∧ x1_523 ≤ 20 := by rw [ex1_523]; exact (bx_c158_3).mp (hI.bx _ _)
  refine ⟨fun c => ?_, fun c => ?_⟩
  · exact hQ _
  · refine ⟨fun c => ?_, fun c => ?_⟩
    · intro x4_527 ex4_527 rx4_527
      have bx4_527 : 0 ≤ x4_527 ∧ x4_527 ≤ 20 := by rw [ex4_527]; exact (bx_c158_3).mp (hI.bx _ _)
      refine ⟨by omega, ?_⟩
      intro x6_528 ex6_528 rx6_528
      first | (have fx6_528 := rmI_b (a := p1) (b := x4_527) (by omega) (by omega); rw [← ex6_528] at fx6_528) | skip
      refine ⟨by omega, ?_⟩
      refine ⟨by omega, ?_⟩
      intro x9_529 ex9_529 rx9_529
      have bx9_529 : -2147483648 ≤ x9_529 ∧ x9_529 ≤ 2147483647 := rx9_529
      exact hQ _
    · exact hQ _
theorem sX2_observe {k0 : Nat} {k1 : Nat} {p3 : Int} {M : Mem} {Q : Mem → Prop} (hI : IX M) (hk0 : isL k0) (hk1 : isS k1) (hp : 0 ≤ p3 ∧ p3 ≤ 5) (hQ : ∀ M' : Mem, IX M' → Q M') : qX2_observe k0 k1 p3 M Q := by
  unfold qX2_observe
  have ek0 : k0 = 187 ∨ k0 = 192 := hk0
  have ek1 : 0 < k1 ∧ k1 < 155 ∧ (k1 - 1) % 7 = 0 := hk1
  refine ⟨by omega, ?_⟩
  refine ⟨by omega, ?_⟩
  intro x3_531 ex3_531 rx3_531
  have bx3_531 : -1 ≤ x3_531 ∧ x3_531 ≤ 29 := by rw [ex3_531]; exact (bx_s1 hk1).mp (hI.bx _ _)
  intro M4_532 h_M4_532
  have hM4_532 : IX M4_532 := by rw [h_M4_532]; exact hI.up (isL.nsp4 hk0) (bx_lf4 hk0)
  refine sX2_uses (p1 := 1) hM4_532 hk0 ?_
  intro x5_533 q534 q535
  refine ⟨fun c => ?_, fun c => ?_⟩
  · unfold qX2_observe_J38
    refine ⟨by omega, ?_⟩
    refine ⟨by omega, ?_⟩
    refine ⟨(by first | assumption | exact (by omega)), ?_⟩
    intro M10_537 h_M10_537
    have hM10_537 : IX M10_537 := by rw [h_M10_537]; exact hM4_532.up (isL.nsp4 hk0) (bx_lf4 hk0)
    refine ⟨by omega, ?_⟩
    refine ⟨by omega, ?_⟩
    intro x13_538 ex13_538 rx13_538
    have bx13_538 : -1 ≤ x13_538 ∧ x13_538 ≤ 29 := by rw [ex13_538]; exact (bx_s1 hk1).mp (hM10_537.bx _ _)
    have fx13_538 : x13_538 = M (k1 + 1) p3 := by rw [ex13_538, h_M10_537, up2_n (by omega), h_M4_532, up2_n (by omega)]
    refine sX8_isCorner (p1 := x13_538) hM10_537  ?_
    intro x14_539 q540 q541
    refine ⟨fun c => ?_, fun c => ?_⟩
    · unfold qX2_observe_J62
      refine ⟨by omega, ?_⟩
      refine ⟨by omega, ?_⟩
      refine ⟨(by first | assumption | exact (by omega)), ?_⟩
      intro M19_543 h_M19_543
      have hM19_543 : IX M19_543 := by rw [h_M19_543]; exact hM10_537.up (isL.nsp4 hk0) (bx_lf4 hk0)
      intro x20_544 ex20_544 rx20_544
      have bx20_544 : -2147483648 ≤ x20_544 ∧ x20_544 ≤ 2147483647 := rx20_544
      have fx20_544 : x20_544 = M k1 10 := by rw [ex20_544, h_M19_543, up2_n (by omega), h_M10_537, up2_n (by omega), h_M4_532, up2_n (by omega)]
      refine sX8_weatherAt (p1 := x20_544) hM19_543 (by omega) ?_
      intro x21_545 q546
      intro M22_547 h_M22_547
      have hM22_547 : IX M22_547 := by rw [h_M22_547]; exact hM19_543.up (isL.nsp4 hk0) (bx_lf4 hk0)
      intro x23_548 ex23_548 rx23_548
      have bx23_548 : -2147483648 ≤ x23_548 ∧ x23_548 ≤ 2147483647 := rx23_548
      have fx23_548 : x23_548 = M k1 10 := by rw [ex23_548, h_M22_547, up2_n (by omega), h_M19_543, up2_n (by omega), h_M10_537, up2_n (by omega), h_M4_532, up2_n (by omega)]
      intro x24_549 ex24_549 rx24_549
      first | (have fx24_549 := rmI_b (a := x23_548) (b := 10) (by omega) (by omega); rw [← ex24_549] at fx24_549) | skip
      intro M25_550 h_M25_550
      have hM25_550 : IX M25_550 := by rw [h_M25_550]; exact hM22_547.up (isL.nsp4 hk0) (bx_lf4 hk0)
      intro M26_551 h_M26_551
      have hM26_551 : IX M26_551 := by rw [h_M26_551]; exact hM25_550.up (isL.nsp4 hk0) (bx_lf4 hk0)
      refine sX2_uses (p1 := 6) hM26_551 hk0 ?_
      intro x27_552 q553 q554
      refine ⟨fun c => ?_, fun c => ?_⟩
      · unfold qX2_observe_J128
        refine ⟨by omega, ?_⟩
        refine ⟨by omega, ?_⟩
        refine ⟨(by first | assumption | exact (by omega)), ?_⟩
        intro M32_556 h_M32_556
        have hM32_556 : IX M32_556 := by rw [h_M32_556]; exact hM26_551.up (isL.nsp4 hk0) (bx_lf4 hk0)
        exact hQ _ hM32_556
      · refine sX6_bitsOf (p2 := p3) hM26_551 hk1 ?_
        intro x33_558 q559
        refine sJ6_bitCount_0f7a4 (p0 := x33_558) hM26_551  ?_
        intro x34_560 p561 q562
        unfold qX2_observe_J128
        refine ⟨by omega, ?_⟩
        refine ⟨by omega, ?_⟩
        refine ⟨(by first | assumption | exact (by omega)), ?_⟩
        intro M32_563 h_M32_563
        have hM32_563 : IX M32_563 := by rw [h_M32_563]; exact hM26_551.up (isL.nsp4 hk0) (bx_lf4 hk0)
        exact hQ _ hM32_563
    · unfold qX2_observe_J62
      refine ⟨by omega, ?_⟩
      refine ⟨by omega, ?_⟩
      refine ⟨(by first | assumption | exact (by omega)), ?_⟩
      intro M19_565 h_M19_565
      have hM19_565 : IX M19_565 := by rw [h_M19_565]; exact hM10_537.up (isL.nsp4 hk0) (bx_lf4 hk0)
      intro x20_566 ex20_566 rx20_566
      have bx20_566 : -2147483648 ≤ x20_566 ∧ x20_566 ≤ 2147483647 := rx20_566
      have fx20_566 : x20_566 = M k1 10 := by rw [ex20_566, h_M19_565, up2_n (by omega), h_M10_537, up2_n (by omega), h_M4_532, up2_n (by omega)]
      refine sX8_weatherAt (p1 := x20_566) hM19_565 (by omega) ?_
      intro x21_567 q568
      intro M22_569 h_M22_569
      have hM22_569 : IX M22_569 := by rw [h_M22_569]; exact hM19_565.up (isL.nsp4 hk0) (bx_lf4 hk0)
      intro x23_570 ex23_570 rx23_570
      have bx23_570 : -2147483648 ≤ x23_570 ∧ x23_570 ≤ 2147483647 := rx23_570
      have fx23_570 : x23_570 = M k1 10 := by rw [ex23_570, h_M22_569, up2_n (by omega), h_M19_565, up2_n (by omega), h_M10_537, up2_n (by omega), h_M4_532, up2_n (by omega)]
      intro x24_571 ex24_571 rx24_571
      first | (have fx24_571 := rmI_b (a := x23_570) (b := 10) (by omega) (by omega); rw [← ex24_571] at fx24_571) | skip
      intro M25_572 h_M25_572
      have hM25_572 : IX M25_572 := by rw [h_M25_572]; exact hM22_569.up (isL.nsp4 hk0) (bx_lf4 hk0)
      intro M26_573 h_M26_573
      have hM26_573 : IX M26_573 := by rw [h_M26_573]; exact hM25_572.up (isL.nsp4 hk0) (bx_lf4 hk0)
      refine sX2_uses (p1 := 6) hM26_573 hk0 ?_
      intro x27_574 q575 q576
      refine ⟨fun c => ?_, fun c => ?_⟩
      · unfold qX2_observe_J128
        refine ⟨by omega, ?_⟩
        refine ⟨by omega, ?_⟩
        refine ⟨(by first | assumption | exact (by omega)), ?_⟩
        intro M32_578 h_M32_578
        have hM32_578 : IX M32_578 := by rw [h_M32_578]; exact hM26_573.up (isL.nsp4 hk0) (bx_lf4 hk0)
        exact hQ _ hM32_578
      · refine sX6_bitsOf (p2 := p3) hM26_573 hk1 ?_
        intro x33_580 q581
        refine sJ6_bitCount_0f7a4 (p0 := x33_580) hM26_573  ?_
        intro x34_582 p583 q584
        unfold qX2_observe_J128
        refine ⟨by omega, ?_⟩
        refine ⟨by omega, ?_⟩
        refine ⟨(by first | assumption | exact (by omega)), ?_⟩
        intro M32_585 h_M32_585
        have hM32_585 : IX M32_585 := by rw [h_M32_585]; exact hM26_573.up (isL.nsp4 hk0) (bx_lf4 hk0)
        exact hQ _ hM32_585
  · refine sX8_gate  hM4_532  ?_
    intro x35_587 p588 q589
    refine sX6_freeAhead (p1 := p3) (p2 := x35_587) hM4_532 hk1 (by omega) ?_
    intro x36_590 q591
    unfold qX2_observe_J38
    refine ⟨by omega, ?_⟩
    refine ⟨by omega, ?_⟩
    refine ⟨(by first | assumption | exact (by omega)), ?_⟩
    intro M10_592 h_M10_592
    have hM10_592 : IX M10_592 := by rw [h_M10_592]; exact hM4_532.up (isL.nsp4 hk0) (bx_lf4 hk0)
    refine ⟨by omega, ?_⟩
    refine ⟨by omega, ?_⟩
    intro x13_593 ex13_593 rx13_593
    have bx13_593 : -1 ≤ x13_593 ∧ x13_593 ≤ 29 := by rw [ex13_593]; exact (bx_s1 hk1).mp (hM10_592.bx _ _)
    have fx13_593 : x13_593 = M (k1 + 1) p3 := by rw [ex13_593, h_M10_592, up2_n (by omega), h_M4_532, up2_n (by omega)]
    refine sX8_isCorner (p1 := x13_593) hM10_592  ?_
    intro x14_594 q595 q596
    refine ⟨fun c => ?_, fun c => ?_⟩
    · unfold qX2_observe_J62
      refine ⟨by omega, ?_⟩
      refine ⟨by omega, ?_⟩
      refine ⟨(by first | assumption | exact (by omega)), ?_⟩
      intro M19_598 h_M19_598
      have hM19_598 : IX M19_598 := by rw [h_M19_598]; exact hM10_592.up (isL.nsp4 hk0) (bx_lf4 hk0)
      intro x20_599 ex20_599 rx20_599
      have bx20_599 : -2147483648 ≤ x20_599 ∧ x20_599 ≤ 2147483647 := rx20_599
      have fx20_599 : x20_599 = M k1 10 := by rw [ex20_599, h_M19_598, up2_n (by omega), h_M10_592, up2_n (by omega), h_M4_532, up2_n (by omega)]
      refine sX8_weatherAt (p1 := x20_599) hM19_598 (by omega) ?_
      intro x21_600 q601
      intro M22_602 h_M22_602
      have hM22_602 : IX M22_602 := by rw [h_M22_602]; exact hM19_598.up (isL.nsp4 hk0) (bx_lf4 hk0)
      intro x23_603 ex23_603 rx23_603
      have bx23_603 : -2147483648 ≤ x23_603 ∧ x23_603 ≤ 2147483647 := rx23_603
      have fx23_603 : x23_603 = M k1 10 := by rw [ex23_603, h_M22_602, up2_n (by omega), h_M19_598, up2_n (by omega), h_M10_592, up2_n (by omega), h_M4_532, up2_n (by omega)]
      intro x24_604 ex24_604 rx24_604
      first | (have fx24_604 := rmI_b (a := x23_603) (b := 10) (by omega) (by omega); rw [← ex24_604] at fx24_604) | skip
      intro M25_605 h_M25_605
      have hM25_605 : IX M25_605 := by rw [h_M25_605]; exact hM22_602.up (isL.nsp4 hk0) (bx_lf4 hk0)
      intro M26_606 h_M26_606
      have hM26_606 : IX M26_606 := by rw [h_M26_606]; exact hM25_605.up (isL.nsp4 hk0) (bx_lf4 hk0)
      refine sX2_uses (p1 := 6) hM26_606 hk0 ?_
      intro x27_607 q608 q609
      refine ⟨fun c => ?_, fun c => ?_⟩
      · unfold qX2_observe_J128
        refine ⟨by omega, ?_⟩
        refine ⟨by omega, ?_⟩
        refine ⟨(by first | assumption | exact (by omega)), ?_⟩
        intro M32_611 h_M32_611
        have hM32_611 : IX M32_611 := by rw [h_M32_611]; exact hM26_606.up (isL.nsp4 hk0) (bx_lf4 hk0)
        exact hQ _ hM32_611
      · refine sX6_bitsOf (p2 := p3) hM26_606 hk1 ?_
        intro x33_613 q614
        refine sJ6_bitCount_0f7a4 (p0 := x33_613) hM26_606  ?_
        intro x34_615 p616 q617
        unfold qX2_observe_J128
        refine ⟨by omega, ?_⟩
        refine ⟨by omega, ?_⟩
        refine ⟨(by first | assumption | exact (by omega)), ?_⟩
        intro M32_618 h_M32_618
        have hM32_618 : IX M32_618 := by rw [h_M32_618]; exact hM26_606.up (isL.nsp4 hk0) (bx_lf4 hk0)
        exact hQ _ hM32_618
    · unfold qX2_observe_J62
      refine ⟨by omega, ?_⟩
      refine ⟨by omega, ?_⟩
      refine ⟨(by first | assumption | exact (by omega)), ?_⟩
      intro M19_620 h_M19_620
      have hM19_620 : IX M19_620 := by rw [h_M19_620]; exact hM10_592.up (isL.nsp4 hk0) (bx_lf4 hk0)
      intro x20_621 ex20_621 rx20_621
      have bx20_621 : -2147483648 ≤ x20_621 ∧ x20_621 ≤ 2147483647 := rx20_621
      have fx20_621 : x20_621 = M k1 10 := by rw [ex20_621, h_M19_620, up2_n (by omega), h_M10_592, up2_n (by omega), h_M4_532, up2_n (by omega)]
      refine sX8_weatherAt (p1 := x20_621) hM19_620 (by omega) ?_
      intro x21_622 q623
      intro M22_624 h_M22_624
      have hM22_624 : IX M22_624 := by rw [h_M22_624]; exact hM19_620.up (isL.nsp4 hk0) (bx_lf4 hk0)
      intro x23_625 ex23_625 rx23_625
      have bx23_625 : -2147483648 ≤ x23_625 ∧ x23_625 ≤ 2147483647 := rx23_625
      have fx23_625 : x23_625 = M k1 10 := by rw [ex23_625, h_M22_624, up2_n (by omega), h_M19_620, up2_n (by omega), h_M10_592, up2_n (by omega), h_M4_532, up2_n (by omega)]
      intro x24_626 ex24_626 rx24_626
      first | (have fx24_626 := rmI_b (a := x23_625) (b := 10) (by omega) (by omega); rw [← ex24_626] at fx24_626) | skip
      intro M25_627 h_M25_627
      have hM25_627 : IX M25_627 := by rw [h_M25_627]; exact hM22_624.up (isL.nsp4 hk0) (bx_lf4 hk0)
      intro M26_628 h_M26_628
      have hM26_628 : IX M26_628 := by rw [h_M26_628]; exact hM25_627.up (isL.nsp4 hk0) (bx_lf4 hk0)
      refine sX2_uses (p1 := 6) hM26_628 hk0 ?_
      intro x27_629 q630 q631
      refine ⟨fun c => ?_, fun c => ?_⟩
      · unfold qX2_observe_J128
        refine ⟨by omega, ?_⟩
        refine ⟨by omega, ?_⟩
        refine ⟨(by first | assumption | exact (by omega)), ?_⟩
        intro M32_633 h_M32_633
        have hM32_633 : IX M32_633 := by rw [h_M32_633]; exact hM26_628.up (isL.nsp4 hk0) (bx_lf4 hk0)
        exact hQ _ hM32_633
      · refine sX6_bitsOf (p2 := p3) hM26_628 hk1 ?_
        intro x33_635 q636
        refine sJ6_bitCount_0f7a4 (p0 := x33_635) hM26_628  ?_
        intro x34_637 p638 q639
        unfold qX2_observe_J128
        refine ⟨by omega, ?_⟩
        refine ⟨by omega, ?_⟩
        refine ⟨(by first | assumption | exact (by omega)), ?_⟩
        intro M32_640 h_M32_640
        have hM32_640 : IX M32_640 := by rw [h_M32_640]; exact hM26_628.up (isL.nsp4 hk0) (bx_lf4 hk0)
        exact hQ _ hM32_640
theorem sX2_join {p0 : Int} {p1 : Int} {p2 : Int} {M : Mem} {Q : Int → Mem → Prop} (hI : IX M) (hQ : ∀ z : Int, Q z M) : qX2_join p0 p1 p2 M Q := by
  unfold qX2_join
  refine ⟨fun c => ?_, fun c => ?_, fun c => ?_, fun c => ?_, fun c => ?_, fun c => ?_, fun c => ?_⟩
  · intro x2_642 ex2_642 rx2_642
    first | (have fx2_642 : x2_642 = p1 * p2 := by rw [ex2_642]; exact w32_id (by omega)) | skip
    exact hQ _
  · intro x3_644 ex3_644 rx3_644
    first | (have fx3_644 : x3_644 = p1 + p2 := by rw [ex3_644]; exact w32_id (by omega)) | skip
    exact hQ _
  · intro x4_646 ex4_646 rx4_646
    first | (have fx4_646 : x4_646 = p1 - p2 := by rw [ex4_646]; exact w32_id (by omega)) | skip
    exact hQ _
  · refine ⟨fun c => ?_, fun c => ?_⟩
    · refine ⟨by omega, ?_⟩
      intro x7_649 ex7_649 rx7_649
      first | (have fx7_649 := dvI_b (a := p1) (b := p2) (by omega) (by omega); rw [← ex7_649] at fx7_649) | skip
      exact hQ _
    · exact hQ _
  · refine ⟨fun c => ?_, fun c => ?_⟩
    · exact hQ _
    · exact hQ _
  · refine ⟨fun c => ?_, fun c => ?_⟩
    · exact hQ _
    · exact hQ _
  · refine ⟨fun c => ?_, fun c => ?_⟩
    · exact hQ _
    · exact hQ _
theorem sX2_pace_L4 {k0 : Nat} {X145 : Mem → Prop} {Q : Int → Mem → Prop} (hk0 : isL k0) (hQ : ∀ z : Int, ∀ M' : Mem, IX M' → (0 ≤ z ∧ z ≤ 3) → Q z M') (hX145 : ∀ M' : Mem, IX M' → X145 M') : ∀ (n : Nat) (v1 v2 : Int) (M : Mem), IX M → (0 ≤ v1 ∧ v1 ≤ v2 ∧ v2 ≤ 40) → 40 - v2 < (n : Int) → qX2_pace_L4 k0 X145 Q n v1 v2 M := by
  intro n
  induction n with
  | zero => intro v1 v2 M hI hv hm; exact absurd hm (by omega)
  | succ n ih =>
    intro v1 v2 M hI hv hm
    rw [qX2_pace_L4]
    have ek0 : k0 = 187 ∨ k0 = 192 := hk0
    intro x1_660 ex1_660 rx1_660
    have bx1_660 : 0 ≤ x1_660 ∧ x1_660 ≤ 40 := by rw [ex1_660]; exact (bx_l4 hk0).mp (hI.bx _ _)
    refine ⟨(by first | assumption | exact (by omega)), ?_⟩
    refine ⟨fun c => ?_, fun c => ?_⟩
    · exact hX145 _ hI
    · refine ⟨by omega, ?_⟩
      refine ⟨by omega, ?_⟩
      intro x6_663 ex6_663 rx6_663
      have bx6_663 : -2147483648 ≤ x6_663 ∧ x6_663 ≤ 2147483647 := rx6_663
      refine ⟨fun c => ?_, fun c => ?_⟩
      · refine ⟨fun c => ?_, fun c => ?_⟩
        · refine ⟨fun c => ?_, fun c => ?_⟩
          · unfold qX2_pace_J105
            refine ⟨(by first | assumption | exact (by omega)), ?_⟩
            refine ⟨fun c => ?_, fun c => ?_⟩
            · exact ih _ _ _ hI (by omega) (by omega)
            · intro x12_669 ex12_669 rx12_669
              first | (have fx12_669 : x12_669 = v1 + (-1) - 1 := by rw [ex12_669]; exact w32_id (by omega)) | skip
              intro x13_670 ex13_670 rx13_670
              first | (have fx13_670 : x13_670 = v1 + (-1) - 1 := by rw [ex13_670]; exact w32_id (by omega)) | skip
              refine ⟨by omega, ?_⟩
              refine ⟨by omega, ?_⟩
              intro x16_671 ex16_671 rx16_671
              have bx16_671 : -2147483648 ≤ x16_671 ∧ x16_671 ≤ 2147483647 := rx16_671
              refine ⟨by omega, ?_⟩
              refine ⟨by omega, ?_⟩
              intro x19_672 ex19_672 rx19_672
              have bx19_672 : -2147483648 ≤ x19_672 ∧ x19_672 ≤ 2147483647 := rx19_672
              refine ⟨(by first | assumption | exact (by omega)), ?_⟩
              refine sX2_join (p0 := x6_663) (p1 := x16_671) (p2 := x19_672) hI  ?_
              intro x21_673 q674
              refine ⟨by omega, ?_⟩
              refine ⟨by omega, ?_⟩
              intro M24_675 h_M24_675
              have hM24_675 : IX M24_675 := by rw [h_M24_675]; exact hI.up (isL.nsp3 hk0) (bx_lf3 hk0)
              exact ih _ _ _ hM24_675 (by omega) (by omega)
          · refine ⟨(by first | assumption | exact (by omega)), ?_⟩
            refine ⟨fun c => ?_, fun c => ?_⟩
            · unfold qX2_pace_J105
              refine ⟨(by first | assumption | exact (by omega)), ?_⟩
              refine ⟨fun c => ?_, fun c => ?_⟩
              · exact ih _ _ _ hI (by omega) (by omega)
              · intro x12_680 ex12_680 rx12_680
                first | (have fx12_680 : x12_680 = v1 + (-1) - 1 := by rw [ex12_680]; exact w32_id (by omega)) | skip
                intro x13_681 ex13_681 rx13_681
                first | (have fx13_681 : x13_681 = v1 + (-1) - 1 := by rw [ex13_681]; exact w32_id (by omega)) | skip
                refine ⟨by omega, ?_⟩
                refine ⟨by omega, ?_⟩
                intro x16_682 ex16_682 rx16_682
                have bx16_682 : -2147483648 ≤ x16_682 ∧ x16_682 ≤ 2147483647 := rx16_682
                refine ⟨by omega, ?_⟩
                refine ⟨by omega, ?_⟩
                intro x19_683 ex19_683 rx19_683
                have bx19_683 : -2147483648 ≤ x19_683 ∧ x19_683 ≤ 2147483647 := rx19_683
                refine ⟨(by first | assumption | exact (by omega)), ?_⟩
                refine sX2_join (p0 := x6_663) (p1 := x16_682) (p2 := x19_683) hI  ?_
                intro x21_684 q685
                refine ⟨by omega, ?_⟩
                refine ⟨by omega, ?_⟩
                intro M24_686 h_M24_686
                have hM24_686 : IX M24_686 := by rw [h_M24_686]; exact hI.up (isL.nsp3 hk0) (bx_lf3 hk0)
                exact ih _ _ _ hM24_686 (by omega) (by omega)
            · intro x27_688 ex27_688 rx27_688
              first | (have fx27_688 : x27_688 = v1 - 1 := by rw [ex27_688]; exact w32_id (by omega)) | skip
              intro x28_689 ex28_689 rx28_689
              first | (have fx28_689 : x28_689 = v1 - 1 := by rw [ex28_689]; exact w32_id (by omega)) | skip
              refine ⟨by omega, ?_⟩
              refine ⟨by omega, ?_⟩
              intro x31_690 ex31_690 rx31_690
              have bx31_690 : -2147483648 ≤ x31_690 ∧ x31_690 ≤ 2147483647 := rx31_690
              intro x32_691 ex32_691 rx32_691
              first | (have fx32_691 : x32_691 = (-x31_690) := by rw [ex32_691]; exact w32_id (by omega)) | skip
              refine ⟨by omega, ?_⟩
              refine ⟨by omega, ?_⟩
              intro M35_692 h_M35_692
              have hM35_692 : IX M35_692 := by rw [h_M35_692]; exact hI.up (isL.nsp3 hk0) (bx_lf3 hk0)
              exact ih _ _ _ hM35_692 (by omega) (by omega)
        · intro x36_694 ex36_694 rx36_694
          have bx36_694 : -2147483648 ≤ x36_694 ∧ x36_694 ≤ 2147483647 := rx36_694
          have lx36_694 := hI.lt (k := k0) hk0 (j := v2)
          refine ⟨by omega, ?_⟩
          refine ⟨by omega, ?_⟩
          intro x39_695 ex39_695 rx39_695
          have bx39_695 : -2147483648 ≤ x39_695 ∧ x39_695 ≤ 2147483647 := rx39_695
          refine ⟨by omega, ?_⟩
          refine ⟨by omega, ?_⟩
          intro M42_696 h_M42_696
          have hM42_696 : IX M42_696 := by rw [h_M42_696]; exact hI.up (isL.nsp3 hk0) (bx_lf3 hk0)
          exact ih _ _ _ hM42_696 (by omega) (by omega)
      · intro x43_698 ex43_698 rx43_698
        have bx43_698 : -2147483648 ≤ x43_698 ∧ x43_698 ≤ 2147483647 := rx43_698
        have lx43_698 := hI.lt (k := k0) hk0 (j := v2)
        refine ⟨by omega, ?_⟩
        refine ⟨by omega, ?_⟩
        intro M46_699 h_M46_699
        have hM46_699 : IX M46_699 := by rw [h_M46_699]; exact hI.up (isL.nsp3 hk0) (bx_lf3 hk0)
        exact ih _ _ _ hM46_699 (by omega) (by omega)
theorem sX2_pace {k0 : Nat} {M : Mem} {Q : Int → Mem → Prop} (hI : IX M) (hk0 : isL k0) (hQ : ∀ z : Int, ∀ M' : Mem, IX M' → (0 ≤ z ∧ z ≤ 3) → Q z M') : qX2_pace k0 M Q := by
  unfold qX2_pace
  have ek0 : k0 = 187 ∨ k0 = 192 := hk0
  refine ⟨41, ?_⟩
  refine sX2_pace_L4 hk0 ?_ ?_ _ _ _ _ hI (by omega) (by omega)
  · exact hQ
  · intro M_700 hM_700
    intro x48_701 ex48_701 rx48_701
    have bx48_701 : -2147483648 ≤ x48_701 ∧ x48_701 ≤ 2147483647 := rx48_701
    intro x49_702 ex49_702 rx49_702
    intro x50_703 ex50_703 rx50_703
    exact hQ _ _ hM_700 (by omega)
theorem sX6_arrive {k0 : Nat} {p1 : Int} {M : Mem} {Q : Mem → Prop} (hI : IX M) (hk0 : isS k0) (hp : 0 ≤ p1 ∧ p1 ≤ 5) (hQ : ∀ M' : Mem, IX M' → Q M') : qX6_arrive k0 p1 M Q := by
  unfold qX6_arrive
  have ek0 : 0 < k0 ∧ k0 < 155 ∧ (k0 - 1) % 7 = 0 := hk0
  intro x1_704 ex1_704 rx1_704
  have bx1_704 : -2147483648 ≤ x1_704 ∧ x1_704 ≤ 2147483647 := rx1_704
  intro x2_705 ex2_705 rx2_705
  first | (have fx2_705 : x2_705 = x1_704 + 1 := by rw [ex2_705]; exact w32_id (by omega)) | skip
  intro M3_706 h_M3_706
  have hM3_706 : IX M3_706 := by rw [h_M3_706]; exact hI.up (isS.nsp hk0 0 (by decide)) (bx_sf0 hk0 (by decide) (by decide))
  intro x4_707 ex4_707 rx4_707
  have bx4_707 : -2147483648 ≤ x4_707 ∧ x4_707 ≤ 2147483647 := rx4_707
  have fx4_707 : x4_707 = x2_705 := by rw [ex4_707, h_M3_706, up2_s]
  refine ⟨by omega, ?_⟩
  refine ⟨by omega, ?_⟩
  intro M7_708 h_M7_708
  have hM7_708 : IX M7_708 := by rw [h_M7_708]; exact hM3_706.up (isS.nsp hk0 2 (by decide)) (bx_sf2 hk0)
  intro M8_709 h_M8_709
  have hM8_709 : IX M8_709 := by rw [h_M8_709]; exact hM7_708.up (isS.nsp hk0 1 (by decide)) ((bx_s1 hk0).mpr (by omega))
  exact hQ _ hM8_709
theorem sX6_takenCells_L4 {k0 : Nat}  {Q : Int → Mem → Prop} {M0 : Mem} (hk0 : isS k0) (hQ : ∀ z : Int, Q z M0) : ∀ (n : Nat) (v1 v2 : Int), IX M0 → (0 ≤ v2 ∧ v2 ≤ 6) → iR v1 → 6 - v2 < (n : Int) → qX6_takenCells_L4 k0 Q n v1 v2 M0 := by
  intro n
  induction n with
  | zero => intro v1 v2 hI hv hrv1 hm; exact absurd hm (by omega)
  | succ n ih =>
    intro v1 v2 hI hv hrv1 hm
    rw [qX6_takenCells_L4]
    have ek0 : 0 < k0 ∧ k0 < 155 ∧ (k0 - 1) % 7 = 0 := hk0
    intro x1_710 ex1_710 rx1_710
    have bx1_710 : 0 ≤ x1_710 ∧ x1_710 ≤ 6 := by rw [ex1_710]; exact (bx_s0_6 hk0).mp (hI.bx _ _)
    refine ⟨(by first | assumption | exact (by omega)), ?_⟩
    refine ⟨fun c => ?_, fun c => ?_⟩
    · refine ⟨(by first | assumption | exact (by omega)), ?_⟩
      exact hQ _
    · refine ⟨by omega, ?_⟩
      refine ⟨by omega, ?_⟩
      intro x7_713 ex7_713 rx7_713
      have bx7_713 : -1 ≤ x7_713 ∧ x7_713 ≤ 29 := by rw [ex7_713]; exact (bx_s1 hk0).mp (hI.bx _ _)
      refine ⟨fun c => ?_, fun c => ?_⟩
      · intro x9_715 ex9_715 rx9_715
        have bx9_715 : -1 ≤ x9_715 ∧ x9_715 ≤ 29 := by rw [ex9_715]; exact (bx_s1 hk0).mp (hI.bx _ _)
        intro x10_716 ex10_716 rx10_716
        first | (have fx10_716 := slI_1 (b := x9_715) (by omega); rw [← ex10_716] at fx10_716) | skip
        intro x11_717 ex11_717 rx11_717
        first | (have fx11_717 := oI_64 (a := v1) (b := x10_716) (by omega) (by omega); rw [← ex11_717] at fx11_717) | skip
        exact ih _ _ hI (by omega) (by first | assumption | exact (by omega)) (by omega)
      · intro x12_719 ex12_719 rx12_719
        first | (have fx12_719 := oI_64 (a := v1) (b := 0) (by omega) (by omega); rw [← ex12_719] at fx12_719) | skip
        exact ih _ _ hI (by omega) (by first | assumption | exact (by omega)) (by omega)
theorem sX6_takenCells {k0 : Nat} {M : Mem} {Q : Int → Mem → Prop} (hI : IX M) (hk0 : isS k0) (hQ : ∀ z : Int, Q z M) : qX6_takenCells k0 M Q := by
  unfold qX6_takenCells
  have ek0 : 0 < k0 ∧ k0 < 155 ∧ (k0 - 1) % 7 = 0 := hk0
  refine ⟨7, ?_⟩
  refine sX6_takenCells_L4 hk0 ?_ _ _ _ hI (by omega) (by first | assumption | exact (by omega)) (by omega)
  · exact hQ
theorem sX10_moveHearse {k1 : Nat} {k2 : Nat} {p3 : Int} {M : Mem} {Q : Mem → Prop} (hI : IX M) (hk1 : isS k1) (hk2 : isL k2) (hp : 0 ≤ p3 ∧ p3 ≤ 5 ∧ 0 ≤ M (k1 + 1) p3) (hQ : ∀ M' : Mem, IX M' → Q M') : qX10_moveHearse k1 k2 p3 M Q := by
  unfold qX10_moveHearse
  have ek1 : 0 < k1 ∧ k1 < 155 ∧ (k1 - 1) % 7 = 0 := hk1
  have ek2 : k2 = 187 ∨ k2 = 192 := hk2
  refine ⟨by omega, ?_⟩
  refine ⟨by omega, ?_⟩
  intro x3_720 ex3_720 rx3_720
  have bx3_720 : -1 ≤ x3_720 ∧ x3_720 ≤ 29 := by rw [ex3_720]; exact (bx_s1 hk1).mp (hI.bx _ _)
  refine sX2_observe (p3 := p3) hI hk2 hk1 (by omega) ?_
  intro M4_721 hM4_721
  refine sX6_takenCells  hM4_721 hk1 ?_
  intro x5_722 q723
  refine sX2_pace  hM4_721 hk2 ?_
  intro x6_724 M6_725 hM6_725 p726 q727
  refine sX10_goal (p1 := x5_722) (p2 := x3_720) (p3 := x6_724) hM6_725 (by omega) ?_
  intro x7_728 p729 q730
  refine ⟨fun c => ?_, fun c => ?_⟩
  · intro M9_732 h_M9_732
    have hM9_732 : IX M9_732 := by rw [h_M9_732]; exact hM6_725.up (by decide) (by simp [BX])
    refine sX8_gate  hM9_732  ?_
    intro x10_733 p734 q735
    refine ⟨fun c => ?_, fun c => ?_⟩
    · intro M12_737 h_M12_737
      have hM12_737 : IX M12_737 := by rw [h_M12_737]; exact hM9_732.up (isS.nsp hk1 1 (by decide)) ((bx_s1 hk1).mpr (by omega))
      exact hQ _ hM12_737
    · refine sX6_arrive (p1 := p3) hM9_732 hk1 (by omega) ?_
      intro M13_739 hM13_739
      exact hQ _ hM13_739
  · intro x14_741 ex14_741 rx14_741
    have bx14_741 : -2147483648 ≤ x14_741 ∧ x14_741 ≤ 2147483647 := rx14_741
    intro x15_742 ex15_742 rx15_742
    first | (have fx15_742 : x15_742 = x14_741 + 1 := by rw [ex15_742]; exact w32_id (by omega)) | skip
    intro M16_743 h_M16_743
    have hM16_743 : IX M16_743 := by rw [h_M16_743]; exact hM6_725.up (by decide) (by simp [BX])
    refine ⟨by omega, ?_⟩
    refine ⟨by omega, ?_⟩
    intro x19_744 ex19_744 rx19_744
    have bx19_744 : -2147483648 ≤ x19_744 ∧ x19_744 ≤ 2147483647 := rx19_744
    have fx19_744 : x19_744 = M6_725 161 x3_720 := by rw [ex19_744, h_M16_743, up2_n (by decide)]
    intro x20_745 ex20_745 rx20_745
    first | (have fx20_745 : x20_745 = x19_744 + 1 := by rw [ex20_745]; exact w32_id (by omega)) | skip
    intro M21_746 h_M21_746
    have hM21_746 : IX M21_746 := by rw [h_M21_746]; exact hM16_743.up (by decide) (by simp [BX])
    exact hQ _ hM21_746
theorem sX6_endAt {k0 : Nat} {p1 : Int} {p2 : Int} {M : Mem} {Q : Mem → Prop} (hI : IX M) (hk0 : isS k0) (hp : 0 ≤ p1 ∧ p1 ≤ 7) (hQ : ∀ M' : Mem, IX M' → Q M') : qX6_endAt k0 p1 p2 M Q := by
  unfold qX6_endAt
  have ek0 : 0 < k0 ∧ k0 < 155 ∧ (k0 - 1) % 7 = 0 := hk0
  refine ⟨by omega, ?_⟩
  refine ⟨by omega, ?_⟩
  intro M3_747 h_M3_747
  have hM3_747 : IX M3_747 := by rw [h_M3_747]; exact hI.up (isS.nsp hk0 6 (by decide)) (bx_sf6 hk0)
  intro x4_748 ex4_748 rx4_748
  have bx4_748 : -2147483648 ≤ x4_748 ∧ x4_748 ≤ 2147483647 := rx4_748
  have fx4_748 : x4_748 = M k0 9 := by rw [ex4_748, h_M3_747, up2_n (by omega)]
  intro x5_749 ex5_749 rx5_749
  first | (have fx5_749 : x5_749 = x4_748 + 1 := by rw [ex5_749]; exact w32_id (by omega)) | skip
  intro M6_750 h_M6_750
  have hM6_750 : IX M6_750 := by rw [h_M6_750]; exact hM3_747.up (isS.nsp hk0 0 (by decide)) (bx_sf0 hk0 (by decide) (by decide))
  exact hQ _ hM6_750
theorem sX6_hasArrived {k0 : Nat} {p1 : Int} {M : Mem} {Q : Int → Mem → Prop} (hI : IX M) (hk0 : isS k0) (hp : 0 ≤ p1 ∧ p1 ≤ 5) (hQ : ∀ z : Int, Q z M) : qX6_hasArrived k0 p1 M Q := by
  unfold qX6_hasArrived
  have ek0 : 0 < k0 ∧ k0 < 155 ∧ (k0 - 1) % 7 = 0 := hk0
  refine ⟨by omega, ?_⟩
  refine ⟨by omega, ?_⟩
  intro x3_751 ex3_751 rx3_751
  have bx3_751 : -2147483648 ≤ x3_751 ∧ x3_751 ≤ 2147483647 := rx3_751
  refine ⟨fun c => ?_, fun c => ?_⟩
  · exact hQ _
  · exact hQ _
theorem sX6_nearestTo_L8 {k0 : Nat} {p1 : Int}  {Q : Int → Mem → Prop} {M0 : Mem} (hk0 : isS k0) (hp : -1 ≤ p1 ∧ p1 ≤ 29) (hQ : ∀ z : Int, (-1 ≤ z ∧ z ≤ 5) → Q z M0) : ∀ (n : Nat) (v2 v3 v4 : Int), IX M0 → (-1 ≤ v2 ∧ v2 ≤ 5 ∧ 0 ≤ v3 ∧ v3 ≤ 60 ∧ 0 ≤ v4 ∧ v4 ≤ 6) → 6 - v4 < (n : Int) → qX6_nearestTo_L8 k0 p1 Q n v2 v3 v4 M0 := by
  intro n
  induction n with
  | zero => intro v2 v3 v4 hI hv hm; exact absurd hm (by omega)
  | succ n ih =>
    intro v2 v3 v4 hI hv hm
    rw [qX6_nearestTo_L8]
    have ek0 : 0 < k0 ∧ k0 < 155 ∧ (k0 - 1) % 7 = 0 := hk0
    intro x1_754 ex1_754 rx1_754
    have bx1_754 : 0 ≤ x1_754 ∧ x1_754 ≤ 6 := by rw [ex1_754]; exact (bx_s0_6 hk0).mp (hI.bx _ _)
    refine ⟨(by first | assumption | exact (by omega)), ?_⟩
    refine ⟨fun c => ?_, fun c => ?_⟩
    · refine ⟨(by first | assumption | exact (by omega)), ?_⟩
      exact hQ _ (by omega)
    · refine ⟨by omega, ?_⟩
      refine ⟨by omega, ?_⟩
      intro x7_757 ex7_757 rx7_757
      have bx7_757 : -1 ≤ x7_757 ∧ x7_757 ≤ 29 := by rw [ex7_757]; exact (bx_s1 hk0).mp (hI.bx _ _)
      refine ⟨(by first | assumption | exact (by omega)), ?_⟩
      intro x9_758 px9_758 nx9_758
      have bx9_758 : 0 ≤ x9_758 ∧ (x7_757 - p1 = x9_758 ∨ x7_757 - p1 = -x9_758) := by omega
      refine ⟨(by first | assumption | exact (by omega)), ?_⟩
      refine ⟨(by first | assumption | exact (by omega)), ?_⟩
      refine ⟨fun c => ?_, fun c => ?_⟩
      · unfold qX6_nearestTo_J54
        unfold qX6_nearestTo_J59
        refine ⟨(by first | assumption | exact (by omega)), ?_⟩
        refine ⟨fun c => ?_, fun c => ?_⟩
        · exact ih _ _ _ hI (by omega) (by omega)
        · refine ⟨by omega, ?_⟩
          refine ⟨by omega, ?_⟩
          intro x17_762 ex17_762 rx17_762
          have bx17_762 : -1 ≤ x17_762 ∧ x17_762 ≤ 29 := by rw [ex17_762]; exact (bx_s1 hk0).mp (hI.bx _ _)
          refine ⟨fun c => ?_, fun c => ?_⟩
          · exact ih _ _ _ hI (by omega) (by omega)
          · exact ih _ _ _ hI (by omega) (by omega)
      · refine ⟨fun c => ?_, fun c => ?_⟩
        · unfold qX6_nearestTo_J58
          unfold qX6_nearestTo_J59
          refine ⟨(by first | assumption | exact (by omega)), ?_⟩
          refine ⟨fun c => ?_, fun c => ?_⟩
          · exact ih _ _ _ hI (by omega) (by omega)
          · refine ⟨by omega, ?_⟩
            refine ⟨by omega, ?_⟩
            intro x17_769 ex17_769 rx17_769
            have bx17_769 : -1 ≤ x17_769 ∧ x17_769 ≤ 29 := by rw [ex17_769]; exact (bx_s1 hk0).mp (hI.bx _ _)
            refine ⟨fun c => ?_, fun c => ?_⟩
            · exact ih _ _ _ hI (by omega) (by omega)
            · exact ih _ _ _ hI (by omega) (by omega)
        · intro x20_773 ex20_773 rx20_773
          have bx20_773 : -1 ≤ x20_773 ∧ x20_773 ≤ 29 := by rw [ex20_773]; exact (bx_s1 hk0).mp (hI.bx _ _)
          refine ⟨fun c => ?_, fun c => ?_⟩
          · unfold qX6_nearestTo_J58
            unfold qX6_nearestTo_J59
            refine ⟨(by first | assumption | exact (by omega)), ?_⟩
            refine ⟨fun c => ?_, fun c => ?_⟩
            · exact ih _ _ _ hI (by omega) (by omega)
            · refine ⟨by omega, ?_⟩
              refine ⟨by omega, ?_⟩
              intro x17_777 ex17_777 rx17_777
              have bx17_777 : -1 ≤ x17_777 ∧ x17_777 ≤ 29 := by rw [ex17_777]; exact (bx_s1 hk0).mp (hI.bx _ _)
              refine ⟨fun c => ?_, fun c => ?_⟩
              · exact ih _ _ _ hI (by omega) (by omega)
              · exact ih _ _ _ hI (by omega) (by omega)
          · unfold qX6_nearestTo_J54
            unfold qX6_nearestTo_J59
            refine ⟨(by first | assumption | exact (by omega)), ?_⟩
            refine ⟨fun c => ?_, fun c => ?_⟩
            · exact ih _ _ _ hI (by omega) (by omega)
            · refine ⟨by omega, ?_⟩
              refine ⟨by omega, ?_⟩
              intro x17_783 ex17_783 rx17_783
              have bx17_783 : -1 ≤ x17_783 ∧ x17_783 ≤ 29 := by rw [ex17_783]; exact (bx_s1 hk0).mp (hI.bx _ _)
              refine ⟨fun c => ?_, fun c => ?_⟩
              · exact ih _ _ _ hI (by omega) (by omega)
              · exact ih _ _ _ hI (by omega) (by omega)
theorem sX6_nearestTo {k0 : Nat} {p1 : Int} {M : Mem} {Q : Int → Mem → Prop} (hI : IX M) (hk0 : isS k0) (hp : -1 ≤ p1 ∧ p1 ≤ 29) (hQ : ∀ z : Int, (-1 ≤ z ∧ z ≤ 5) → Q z M) : qX6_nearestTo k0 p1 M Q := by
  unfold qX6_nearestTo
  have ek0 : 0 < k0 ∧ k0 < 155 ∧ (k0 - 1) % 7 = 0 := hk0
  refine ⟨7, ?_⟩
  refine sX6_nearestTo_L8 hk0 hp ?_ _ _ _ _ hI (by omega) (by omega)
  · exact hQ
theorem sX10_moveMourner {k1 : Nat} {p2 : Int} {M : Mem} {Q : Mem → Prop} (hI : IX M) (hk1 : isS k1) (hp : 0 ≤ p2 ∧ p2 ≤ 7) (hQ : ∀ M' : Mem, IX M' → Q M') : qX10_moveMourner k1 p2 M Q := by
  unfold qX10_moveMourner
  have ek1 : 0 < k1 ∧ k1 < 155 ∧ (k1 - 1) % 7 = 0 := hk1
  refine ⟨by omega, ?_⟩
  refine ⟨by omega, ?_⟩
  intro x3_786 ex3_786 rx3_786
  have bx3_786 : -1 ≤ x3_786 ∧ x3_786 ≤ 5 := by rw [ex3_786]; exact (bx_s5 hk1).mp (hI.bx _ _)
  refine ⟨fun c => ?_, fun c => ?_⟩
  · unfold qX10_moveMourner_J32
    refine ⟨by omega, ?_⟩
    refine ⟨by omega, ?_⟩
    intro x7_788 ex7_788 rx7_788
    have bx7_788 : -1 ≤ x7_788 ∧ x7_788 ≤ 29 := by rw [ex7_788]; exact (bx_s3 hk1).mp (hI.bx _ _)
    refine sX6_nearestTo (p1 := x7_788) hI hk1 (by omega) ?_
    intro x8_789 p790 q791
    refine ⟨fun c => ?_, fun c => ?_⟩
    · refine ⟨by omega, ?_⟩
      refine ⟨by omega, ?_⟩
      intro x12_793 ex12_793 rx12_793
      have bx12_793 : -1 ≤ x12_793 ∧ x12_793 ≤ 29 := by rw [ex12_793]; exact (bx_s1 hk1).mp (hI.bx _ _)
      refine ⟨(by first | assumption | exact (by omega)), ?_⟩
      refine ⟨fun c => ?_, fun c => ?_⟩
      · unfold qX10_moveMourner_J92
        refine ⟨by omega, ?_⟩
        refine ⟨by omega, ?_⟩
        refine ⟨(by first | assumption | exact (by omega)), ?_⟩
        intro M18_795 h_M18_795
        have hM18_795 : IX M18_795 := by rw [h_M18_795]; exact hI.up (isS.nsp hk1 5 (by decide)) ((bx_s5 hk1).mpr (by omega))
        intro x19_796 ex19_796 rx19_796
        have bx19_796 : -2147483648 ≤ x19_796 ∧ x19_796 ≤ 2147483647 := rx19_796
        have fx19_796 : x19_796 = M 160 4 := by rw [ex19_796, h_M18_795, up2_n (by omega)]
        intro x20_797 ex20_797 rx20_797
        first | (have fx20_797 : x20_797 = x19_796 + 1 := by rw [ex20_797]; exact w32_id (by omega)) | skip
        intro M21_798 h_M21_798
        have hM21_798 : IX M21_798 := by rw [h_M21_798]; exact hM18_795.up (by decide) (by simp [BX])
        intro x22_799 ex22_799 rx22_799
        have bx22_799 : -2147483648 ≤ x22_799 ∧ x22_799 ≤ 2147483647 := rx22_799
        have fx22_799 : x22_799 = M 162 p2 := by rw [ex22_799, h_M21_798, up2_n (by decide), h_M18_795, up2_n (by omega)]
        intro x23_800 ex23_800 rx23_800
        first | (have fx23_800 : x23_800 = x22_799 + 1 := by rw [ex23_800]; exact w32_id (by omega)) | skip
        intro M24_801 h_M24_801
        have hM24_801 : IX M24_801 := by rw [h_M24_801]; exact hM21_798.up (by decide) (by simp [BX])
        intro M25_802 h_M25_802
        have hM25_802 : IX M25_802 := by rw [h_M25_802]; exact hM24_801.up (by decide) (by simp [BX])
        unfold qX10_moveMourner_J139
        refine ⟨(by first | assumption | exact (by omega)), ?_⟩
        intro x27_803 ex27_803 rx27_803
        intro x28_804 ex28_804 rx28_804
        refine ⟨by omega, ?_⟩
        refine ⟨by omega, ?_⟩
        refine ⟨(by first | assumption | exact (by omega)), ?_⟩
        intro M32_805 h_M32_805
        have hM32_805 : IX M32_805 := by rw [h_M32_805]; exact hM25_802.up (isS.nsp hk1 3 (by decide)) ((bx_s3 hk1).mpr (by omega))
        intro x33_806 ex33_806 rx33_806
        have bx33_806 : -2147483648 ≤ x33_806 ∧ x33_806 ≤ 2147483647 := rx33_806
        have fx33_806 : x33_806 = 1 := by rw [ex33_806, h_M32_805, up2_n (by omega), h_M25_802, up2_s]
        refine ⟨fun c => ?_, fun c => ?_⟩
        · unfold qX10_moveMourner_J172
          unfold qX10_moveMourner_J177
          refine ⟨(by first | assumption | exact (by omega)), ?_⟩
          refine ⟨by omega, ?_⟩
          intro M37_808 h_M37_808
          have hM37_808 : IX M37_808 := by rw [h_M37_808]; exact hM32_805.up (by decide) (by simp [BX])
          exact hQ _ hM37_808
        · refine ⟨fun c => ?_, fun c => ?_⟩
          · unfold qX10_moveMourner_J177
            refine ⟨(by first | assumption | exact (by omega)), ?_⟩
            refine ⟨by omega, ?_⟩
            intro M37_811 h_M37_811
            have hM37_811 : IX M37_811 := by rw [h_M37_811]; exact hM32_805.up (by decide) (by simp [BX])
            exact hQ _ hM37_811
          · unfold qX10_moveMourner_J172
            unfold qX10_moveMourner_J177
            refine ⟨(by first | assumption | exact (by omega)), ?_⟩
            refine ⟨by omega, ?_⟩
            intro M37_813 h_M37_813
            have hM37_813 : IX M37_813 := by rw [h_M37_813]; exact hM32_805.up (by decide) (by simp [BX])
            exact hQ _ hM37_813
      · refine ⟨(by first | assumption | exact (by omega)), ?_⟩
        intro x40_815 px40_815 nx40_815
        have bx40_815 : 0 ≤ x40_815 ∧ (x12_793 - x7_788 = x40_815 ∨ x12_793 - x7_788 = -x40_815) := by omega
        refine ⟨by omega, ?_⟩
        refine ⟨by omega, ?_⟩
        intro x43_816 ex43_816 rx43_816
        have bx43_816 : -1 ≤ x43_816 ∧ x43_816 ≤ 29 := by rw [ex43_816]; exact (bx_s1 hk1).mp (hI.bx _ _)
        refine ⟨(by first | assumption | exact (by omega)), ?_⟩
        intro x45_817 px45_817 nx45_817
        have bx45_817 : 0 ≤ x45_817 ∧ (x43_816 - x7_788 = x45_817 ∨ x43_816 - x7_788 = -x45_817) := by omega
        refine ⟨(by first | assumption | exact (by omega)), ?_⟩
        refine ⟨(by first | assumption | exact (by omega)), ?_⟩
        refine ⟨fun c => ?_, fun c => ?_⟩
        · intro x49_819 ex49_819 rx49_819
          have bx49_819 : -1 ≤ x49_819 ∧ x49_819 ≤ 29 := by rw [ex49_819]; exact (bx_s1 hk1).mp (hI.bx _ _)
          unfold qX10_moveMourner_J139
          refine ⟨(by first | assumption | exact (by omega)), ?_⟩
          intro x27_820 ex27_820 rx27_820
          intro x28_821 ex28_821 rx28_821
          refine ⟨by omega, ?_⟩
          refine ⟨by omega, ?_⟩
          refine ⟨(by first | assumption | exact (by omega)), ?_⟩
          intro M32_822 h_M32_822
          have hM32_822 : IX M32_822 := by rw [h_M32_822]; exact hI.up (isS.nsp hk1 3 (by decide)) ((bx_s3 hk1).mpr (by omega))
          intro x33_823 ex33_823 rx33_823
          have bx33_823 : -2147483648 ≤ x33_823 ∧ x33_823 ≤ 2147483647 := rx33_823
          have fx33_823 : x33_823 = M 160 5 := by rw [ex33_823, h_M32_822, up2_n (by omega)]
          refine ⟨fun c => ?_, fun c => ?_⟩
          · unfold qX10_moveMourner_J172
            unfold qX10_moveMourner_J177
            refine ⟨(by first | assumption | exact (by omega)), ?_⟩
            refine ⟨by omega, ?_⟩
            intro M37_825 h_M37_825
            have hM37_825 : IX M37_825 := by rw [h_M37_825]; exact hM32_822.up (by decide) (by simp [BX])
            exact hQ _ hM37_825
          · refine ⟨fun c => ?_, fun c => ?_⟩
            · unfold qX10_moveMourner_J177
              refine ⟨(by first | assumption | exact (by omega)), ?_⟩
              refine ⟨by omega, ?_⟩
              intro M37_828 h_M37_828
              have hM37_828 : IX M37_828 := by rw [h_M37_828]; exact hM32_822.up (by decide) (by simp [BX])
              exact hQ _ hM37_828
            · unfold qX10_moveMourner_J172
              unfold qX10_moveMourner_J177
              refine ⟨(by first | assumption | exact (by omega)), ?_⟩
              refine ⟨by omega, ?_⟩
              intro M37_830 h_M37_830
              have hM37_830 : IX M37_830 := by rw [h_M37_830]; exact hM32_822.up (by decide) (by simp [BX])
              exact hQ _ hM37_830
        · unfold qX10_moveMourner_J92
          refine ⟨by omega, ?_⟩
          refine ⟨by omega, ?_⟩
          refine ⟨(by first | assumption | exact (by omega)), ?_⟩
          intro M18_832 h_M18_832
          have hM18_832 : IX M18_832 := by rw [h_M18_832]; exact hI.up (isS.nsp hk1 5 (by decide)) ((bx_s5 hk1).mpr (by omega))
          intro x19_833 ex19_833 rx19_833
          have bx19_833 : -2147483648 ≤ x19_833 ∧ x19_833 ≤ 2147483647 := rx19_833
          have fx19_833 : x19_833 = M 160 4 := by rw [ex19_833, h_M18_832, up2_n (by omega)]
          intro x20_834 ex20_834 rx20_834
          first | (have fx20_834 : x20_834 = x19_833 + 1 := by rw [ex20_834]; exact w32_id (by omega)) | skip
          intro M21_835 h_M21_835
          have hM21_835 : IX M21_835 := by rw [h_M21_835]; exact hM18_832.up (by decide) (by simp [BX])
          intro x22_836 ex22_836 rx22_836
          have bx22_836 : -2147483648 ≤ x22_836 ∧ x22_836 ≤ 2147483647 := rx22_836
          have fx22_836 : x22_836 = M 162 p2 := by rw [ex22_836, h_M21_835, up2_n (by decide), h_M18_832, up2_n (by omega)]
          intro x23_837 ex23_837 rx23_837
          first | (have fx23_837 : x23_837 = x22_836 + 1 := by rw [ex23_837]; exact w32_id (by omega)) | skip
          intro M24_838 h_M24_838
          have hM24_838 : IX M24_838 := by rw [h_M24_838]; exact hM21_835.up (by decide) (by simp [BX])
          intro M25_839 h_M25_839
          have hM25_839 : IX M25_839 := by rw [h_M25_839]; exact hM24_838.up (by decide) (by simp [BX])
          unfold qX10_moveMourner_J139
          refine ⟨(by first | assumption | exact (by omega)), ?_⟩
          intro x27_840 ex27_840 rx27_840
          intro x28_841 ex28_841 rx28_841
          refine ⟨by omega, ?_⟩
          refine ⟨by omega, ?_⟩
          refine ⟨(by first | assumption | exact (by omega)), ?_⟩
          intro M32_842 h_M32_842
          have hM32_842 : IX M32_842 := by rw [h_M32_842]; exact hM25_839.up (isS.nsp hk1 3 (by decide)) ((bx_s3 hk1).mpr (by omega))
          intro x33_843 ex33_843 rx33_843
          have bx33_843 : -2147483648 ≤ x33_843 ∧ x33_843 ≤ 2147483647 := rx33_843
          have fx33_843 : x33_843 = 1 := by rw [ex33_843, h_M32_842, up2_n (by omega), h_M25_839, up2_s]
          refine ⟨fun c => ?_, fun c => ?_⟩
          · unfold qX10_moveMourner_J172
            unfold qX10_moveMourner_J177
            refine ⟨(by first | assumption | exact (by omega)), ?_⟩
            refine ⟨by omega, ?_⟩
            intro M37_845 h_M37_845
            have hM37_845 : IX M37_845 := by rw [h_M37_845]; exact hM32_842.up (by decide) (by simp [BX])
            exact hQ _ hM37_845
          · refine ⟨fun c => ?_, fun c => ?_⟩
            · unfold qX10_moveMourner_J177
              refine ⟨(by first | assumption | exact (by omega)), ?_⟩
              refine ⟨by omega, ?_⟩
              intro M37_848 h_M37_848
              have hM37_848 : IX M37_848 := by rw [h_M37_848]; exact hM32_842.up (by decide) (by simp [BX])
              exact hQ _ hM37_848
            · unfold qX10_moveMourner_J172
              unfold qX10_moveMourner_J177
              refine ⟨(by first | assumption | exact (by omega)), ?_⟩
              refine ⟨by omega, ?_⟩
              intro M37_850 h_M37_850
              have hM37_850 : IX M37_850 := by rw [h_M37_850]; exact hM32_842.up (by decide) (by simp [BX])
              exact hQ _ hM37_850
    · exact hQ _ hI
  · refine sX6_hasArrived (p1 := x3_786) hI hk1 (by omega) ?_
    intro x50_853 q854 q855
    refine ⟨fun c => ?_, fun c => ?_⟩
    · unfold qX10_moveMourner_J32
      refine ⟨by omega, ?_⟩
      refine ⟨by omega, ?_⟩
      intro x7_857 ex7_857 rx7_857
      have bx7_857 : -1 ≤ x7_857 ∧ x7_857 ≤ 29 := by rw [ex7_857]; exact (bx_s3 hk1).mp (hI.bx _ _)
      refine sX6_nearestTo (p1 := x7_857) hI hk1 (by omega) ?_
      intro x8_858 p859 q860
      refine ⟨fun c => ?_, fun c => ?_⟩
      · refine ⟨by omega, ?_⟩
        refine ⟨by omega, ?_⟩
        intro x12_862 ex12_862 rx12_862
        have bx12_862 : -1 ≤ x12_862 ∧ x12_862 ≤ 29 := by rw [ex12_862]; exact (bx_s1 hk1).mp (hI.bx _ _)
        refine ⟨(by first | assumption | exact (by omega)), ?_⟩
        refine ⟨fun c => ?_, fun c => ?_⟩
        · unfold qX10_moveMourner_J92
          refine ⟨by omega, ?_⟩
          refine ⟨by omega, ?_⟩
          refine ⟨(by first | assumption | exact (by omega)), ?_⟩
          intro M18_864 h_M18_864
          have hM18_864 : IX M18_864 := by rw [h_M18_864]; exact hI.up (isS.nsp hk1 5 (by decide)) ((bx_s5 hk1).mpr (by omega))
          intro x19_865 ex19_865 rx19_865
          have bx19_865 : -2147483648 ≤ x19_865 ∧ x19_865 ≤ 2147483647 := rx19_865
          have fx19_865 : x19_865 = M 160 4 := by rw [ex19_865, h_M18_864, up2_n (by omega)]
          intro x20_866 ex20_866 rx20_866
          first | (have fx20_866 : x20_866 = x19_865 + 1 := by rw [ex20_866]; exact w32_id (by omega)) | skip
          intro M21_867 h_M21_867
          have hM21_867 : IX M21_867 := by rw [h_M21_867]; exact hM18_864.up (by decide) (by simp [BX])
          intro x22_868 ex22_868 rx22_868
          have bx22_868 : -2147483648 ≤ x22_868 ∧ x22_868 ≤ 2147483647 := rx22_868
          have fx22_868 : x22_868 = M 162 p2 := by rw [ex22_868, h_M21_867, up2_n (by decide), h_M18_864, up2_n (by omega)]
          intro x23_869 ex23_869 rx23_869
          first | (have fx23_869 : x23_869 = x22_868 + 1 := by rw [ex23_869]; exact w32_id (by omega)) | skip
          intro M24_870 h_M24_870
          have hM24_870 : IX M24_870 := by rw [h_M24_870]; exact hM21_867.up (by decide) (by simp [BX])
          intro M25_871 h_M25_871
          have hM25_871 : IX M25_871 := by rw [h_M25_871]; exact hM24_870.up (by decide) (by simp [BX])
          unfold qX10_moveMourner_J139
          refine ⟨(by first | assumption | exact (by omega)), ?_⟩
          intro x27_872 ex27_872 rx27_872
          intro x28_873 ex28_873 rx28_873
          refine ⟨by omega, ?_⟩
          refine ⟨by omega, ?_⟩
          refine ⟨(by first | assumption | exact (by omega)), ?_⟩
          intro M32_874 h_M32_874
          have hM32_874 : IX M32_874 := by rw [h_M32_874]; exact hM25_871.up (isS.nsp hk1 3 (by decide)) ((bx_s3 hk1).mpr (by omega))
          intro x33_875 ex33_875 rx33_875
          have bx33_875 : -2147483648 ≤ x33_875 ∧ x33_875 ≤ 2147483647 := rx33_875
          have fx33_875 : x33_875 = 1 := by rw [ex33_875, h_M32_874, up2_n (by omega), h_M25_871, up2_s]
          refine ⟨fun c => ?_, fun c => ?_⟩
          · unfold qX10_moveMourner_J172
            unfold qX10_moveMourner_J177
            refine ⟨(by first | assumption | exact (by omega)), ?_⟩
            refine ⟨by omega, ?_⟩
            intro M37_877 h_M37_877
            have hM37_877 : IX M37_877 := by rw [h_M37_877]; exact hM32_874.up (by decide) (by simp [BX])
            exact hQ _ hM37_877
          · refine ⟨fun c => ?_, fun c => ?_⟩
            · unfold qX10_moveMourner_J177
              refine ⟨(by first | assumption | exact (by omega)), ?_⟩
              refine ⟨by omega, ?_⟩
              intro M37_880 h_M37_880
              have hM37_880 : IX M37_880 := by rw [h_M37_880]; exact hM32_874.up (by decide) (by simp [BX])
              exact hQ _ hM37_880
            · unfold qX10_moveMourner_J172
              unfold qX10_moveMourner_J177
              refine ⟨(by first | assumption | exact (by omega)), ?_⟩
              refine ⟨by omega, ?_⟩
              intro M37_882 h_M37_882
              have hM37_882 : IX M37_882 := by rw [h_M37_882]; exact hM32_874.up (by decide) (by simp [BX])
              exact hQ _ hM37_882
        · refine ⟨(by first | assumption | exact (by omega)), ?_⟩
          intro x40_884 px40_884 nx40_884
          have bx40_884 : 0 ≤ x40_884 ∧ (x12_862 - x7_857 = x40_884 ∨ x12_862 - x7_857 = -x40_884) := by omega
          refine ⟨by omega, ?_⟩
          refine ⟨by omega, ?_⟩
          intro x43_885 ex43_885 rx43_885
          have bx43_885 : -1 ≤ x43_885 ∧ x43_885 ≤ 29 := by rw [ex43_885]; exact (bx_s1 hk1).mp (hI.bx _ _)
          refine ⟨(by first | assumption | exact (by omega)), ?_⟩
          intro x45_886 px45_886 nx45_886
          have bx45_886 : 0 ≤ x45_886 ∧ (x43_885 - x7_857 = x45_886 ∨ x43_885 - x7_857 = -x45_886) := by omega
          refine ⟨(by first | assumption | exact (by omega)), ?_⟩
          refine ⟨(by first | assumption | exact (by omega)), ?_⟩
          refine ⟨fun c => ?_, fun c => ?_⟩
          · intro x49_888 ex49_888 rx49_888
            have bx49_888 : -1 ≤ x49_888 ∧ x49_888 ≤ 29 := by rw [ex49_888]; exact (bx_s1 hk1).mp (hI.bx _ _)
            unfold qX10_moveMourner_J139
            refine ⟨(by first | assumption | exact (by omega)), ?_⟩
            intro x27_889 ex27_889 rx27_889
            intro x28_890 ex28_890 rx28_890
            refine ⟨by omega, ?_⟩
            refine ⟨by omega, ?_⟩
            refine ⟨(by first | assumption | exact (by omega)), ?_⟩
            intro M32_891 h_M32_891
            have hM32_891 : IX M32_891 := by rw [h_M32_891]; exact hI.up (isS.nsp hk1 3 (by decide)) ((bx_s3 hk1).mpr (by omega))
            intro x33_892 ex33_892 rx33_892
            have bx33_892 : -2147483648 ≤ x33_892 ∧ x33_892 ≤ 2147483647 := rx33_892
            have fx33_892 : x33_892 = M 160 5 := by rw [ex33_892, h_M32_891, up2_n (by omega)]
            refine ⟨fun c => ?_, fun c => ?_⟩
            · unfold qX10_moveMourner_J172
              unfold qX10_moveMourner_J177
              refine ⟨(by first | assumption | exact (by omega)), ?_⟩
              refine ⟨by omega, ?_⟩
              intro M37_894 h_M37_894
              have hM37_894 : IX M37_894 := by rw [h_M37_894]; exact hM32_891.up (by decide) (by simp [BX])
              exact hQ _ hM37_894
            · refine ⟨fun c => ?_, fun c => ?_⟩
              · unfold qX10_moveMourner_J177
                refine ⟨(by first | assumption | exact (by omega)), ?_⟩
                refine ⟨by omega, ?_⟩
                intro M37_897 h_M37_897
                have hM37_897 : IX M37_897 := by rw [h_M37_897]; exact hM32_891.up (by decide) (by simp [BX])
                exact hQ _ hM37_897
              · unfold qX10_moveMourner_J172
                unfold qX10_moveMourner_J177
                refine ⟨(by first | assumption | exact (by omega)), ?_⟩
                refine ⟨by omega, ?_⟩
                intro M37_899 h_M37_899
                have hM37_899 : IX M37_899 := by rw [h_M37_899]; exact hM32_891.up (by decide) (by simp [BX])
                exact hQ _ hM37_899
          · unfold qX10_moveMourner_J92
            refine ⟨by omega, ?_⟩
            refine ⟨by omega, ?_⟩
            refine ⟨(by first | assumption | exact (by omega)), ?_⟩
            intro M18_901 h_M18_901
            have hM18_901 : IX M18_901 := by rw [h_M18_901]; exact hI.up (isS.nsp hk1 5 (by decide)) ((bx_s5 hk1).mpr (by omega))
            intro x19_902 ex19_902 rx19_902
            have bx19_902 : -2147483648 ≤ x19_902 ∧ x19_902 ≤ 2147483647 := rx19_902
            have fx19_902 : x19_902 = M 160 4 := by rw [ex19_902, h_M18_901, up2_n (by omega)]
            intro x20_903 ex20_903 rx20_903
            first | (have fx20_903 : x20_903 = x19_902 + 1 := by rw [ex20_903]; exact w32_id (by omega)) | skip
            intro M21_904 h_M21_904
            have hM21_904 : IX M21_904 := by rw [h_M21_904]; exact hM18_901.up (by decide) (by simp [BX])
            intro x22_905 ex22_905 rx22_905
            have bx22_905 : -2147483648 ≤ x22_905 ∧ x22_905 ≤ 2147483647 := rx22_905
            have fx22_905 : x22_905 = M 162 p2 := by rw [ex22_905, h_M21_904, up2_n (by decide), h_M18_901, up2_n (by omega)]
            intro x23_906 ex23_906 rx23_906
            first | (have fx23_906 : x23_906 = x22_905 + 1 := by rw [ex23_906]; exact w32_id (by omega)) | skip
            intro M24_907 h_M24_907
            have hM24_907 : IX M24_907 := by rw [h_M24_907]; exact hM21_904.up (by decide) (by simp [BX])
            intro M25_908 h_M25_908
            have hM25_908 : IX M25_908 := by rw [h_M25_908]; exact hM24_907.up (by decide) (by simp [BX])
            unfold qX10_moveMourner_J139
            refine ⟨(by first | assumption | exact (by omega)), ?_⟩
            intro x27_909 ex27_909 rx27_909
            intro x28_910 ex28_910 rx28_910
            refine ⟨by omega, ?_⟩
            refine ⟨by omega, ?_⟩
            refine ⟨(by first | assumption | exact (by omega)), ?_⟩
            intro M32_911 h_M32_911
            have hM32_911 : IX M32_911 := by rw [h_M32_911]; exact hM25_908.up (isS.nsp hk1 3 (by decide)) ((bx_s3 hk1).mpr (by omega))
            intro x33_912 ex33_912 rx33_912
            have bx33_912 : -2147483648 ≤ x33_912 ∧ x33_912 ≤ 2147483647 := rx33_912
            have fx33_912 : x33_912 = 1 := by rw [ex33_912, h_M32_911, up2_n (by omega), h_M25_908, up2_s]
            refine ⟨fun c => ?_, fun c => ?_⟩
            · unfold qX10_moveMourner_J172
              unfold qX10_moveMourner_J177
              refine ⟨(by first | assumption | exact (by omega)), ?_⟩
              refine ⟨by omega, ?_⟩
              intro M37_914 h_M37_914
              have hM37_914 : IX M37_914 := by rw [h_M37_914]; exact hM32_911.up (by decide) (by simp [BX])
              exact hQ _ hM37_914
            · refine ⟨fun c => ?_, fun c => ?_⟩
              · unfold qX10_moveMourner_J177
                refine ⟨(by first | assumption | exact (by omega)), ?_⟩
                refine ⟨by omega, ?_⟩
                intro M37_917 h_M37_917
                have hM37_917 : IX M37_917 := by rw [h_M37_917]; exact hM32_911.up (by decide) (by simp [BX])
                exact hQ _ hM37_917
              · unfold qX10_moveMourner_J172
                unfold qX10_moveMourner_J177
                refine ⟨(by first | assumption | exact (by omega)), ?_⟩
                refine ⟨by omega, ?_⟩
                intro M37_919 h_M37_919
                have hM37_919 : IX M37_919 := by rw [h_M37_919]; exact hM32_911.up (by decide) (by simp [BX])
                exact hQ _ hM37_919
      · exact hQ _ hI
    · refine sX6_endAt (p1 := p2) (p2 := x3_786) hI hk1 (by omega) ?_
      intro M52_922 hM52_922
      intro M53_923 h_M53_923
      have hM53_923 : IX M53_923 := by rw [h_M53_923]; exact hM52_922.up (by decide) (by simp [BX])
      exact hQ _ hM53_923
theorem sX6_foremostBelow_L7 {k0 : Nat} {p1 : Int}  {Q : Int → Mem → Prop} {M0 : Mem} (hk0 : isS k0) (hQ : ∀ z : Int, (z = -1 ∨ 0 ≤ z ∧ z ≤ 5 ∧ 0 ≤ M0 (k0 + 1) z) → Q z M0) : ∀ (n : Nat) (v2 v3 v4 : Int), IX M0 → ((v2 = -1 ∧ v3 = -1 ∨ 0 ≤ v2 ∧ v2 ≤ 5 ∧ 0 ≤ v3 ∧ v3 ≤ 29 ∧ v3 = M0 (k0 + 1) v2) ∧ 0 ≤ v4 ∧ v4 ≤ 6) → 6 - v4 < (n : Int) → qX6_foremostBelow_L7 k0 p1 Q n v2 v3 v4 M0 := by
  intro n
  induction n with
  | zero => intro v2 v3 v4 hI hv hm; exact absurd hm (by omega)
  | succ n ih =>
    intro v2 v3 v4 hI hv hm
    rw [qX6_foremostBelow_L7]
    have ek0 : 0 < k0 ∧ k0 < 155 ∧ (k0 - 1) % 7 = 0 := hk0
    intro x1_924 ex1_924 rx1_924
    have bx1_924 : 0 ≤ x1_924 ∧ x1_924 ≤ 6 := by rw [ex1_924]; exact (bx_s0_6 hk0).mp (hI.bx _ _)
    refine ⟨(by first | assumption | exact (by omega)), ?_⟩
    refine ⟨fun c => ?_, fun c => ?_⟩
    · refine ⟨(by first | assumption | exact (by omega)), ?_⟩
      exact hQ _ (by omega)
    · refine ⟨by omega, ?_⟩
      refine ⟨by omega, ?_⟩
      intro x7_927 ex7_927 rx7_927
      have bx7_927 : -1 ≤ x7_927 ∧ x7_927 ≤ 29 := by rw [ex7_927]; exact (bx_s1 hk0).mp (hI.bx _ _)
      refine ⟨fun c => ?_, fun c => ?_⟩
      · exact ih _ _ _ hI (by omega) (by omega)
      · intro x9_930 ex9_930 rx9_930
        have bx9_930 : -1 ≤ x9_930 ∧ x9_930 ≤ 29 := by rw [ex9_930]; exact (bx_s1 hk0).mp (hI.bx _ _)
        refine ⟨(by first | assumption | exact (by omega)), ?_⟩
        refine ⟨fun c => ?_, fun c => ?_⟩
        · exact ih _ _ _ hI (by omega) (by omega)
        · intro x12_933 ex12_933 rx12_933
          have bx12_933 : -1 ≤ x12_933 ∧ x12_933 ≤ 29 := by rw [ex12_933]; exact (bx_s1 hk0).mp (hI.bx _ _)
          exact ih _ _ _ hI (by omega) (by omega)
theorem sX6_foremostBelow {k0 : Nat} {p1 : Int} {M : Mem} {Q : Int → Mem → Prop} (hI : IX M) (hk0 : isS k0) (hQ : ∀ z : Int, (z = -1 ∨ 0 ≤ z ∧ z ≤ 5 ∧ 0 ≤ M (k0 + 1) z) → Q z M) : qX6_foremostBelow k0 p1 M Q := by
  unfold qX6_foremostBelow
  have ek0 : 0 < k0 ∧ k0 < 155 ∧ (k0 - 1) % 7 = 0 := hk0
  refine ⟨7, ?_⟩
  refine sX6_foremostBelow_L7 hk0 ?_ _ _ _ _ hI (by omega) (by omega)
  · exact hQ
theorem sX10_advance_L16 {k1 : Nat} {k2 : Nat} {X36 : Mem → Prop} {X61 : Mem → Prop} {Q : Mem → Prop} (hk1 : isS k1) (hk2 : isL k2) (hQ : ∀ M' : Mem, IX M' → Q M') (hX36 : ∀ M' : Mem, IX M' → X36 M') (hX61 : ∀ M' : Mem, IX M' → X61 M') : ∀ (n : Nat) (v3 v4 : Int) (M : Mem), IX M → (0 ≤ v3 ∧ v3 ≤ 30 ∧ 0 ≤ v4 ∧ v4 ≤ 6) → 6 - v4 < (n : Int) → qX10_advance_L16 k1 k2 X36 X61 Q n v3 v4 M := by
  intro n
  induction n with
  | zero => intro v3 v4 M hI hv hm; exact absurd hm (by omega)
  | succ n ih =>
    intro v3 v4 M hI hv hm
    rw [qX10_advance_L16]
    have ek1 : 0 < k1 ∧ k1 < 155 ∧ (k1 - 1) % 7 = 0 := hk1
    have ek2 : k2 = 187 ∨ k2 = 192 := hk2
    refine ⟨(by first | assumption | exact (by omega)), ?_⟩
    refine ⟨fun c => ?_, fun c => ?_⟩
    · exact hX61 _ hI
    · refine ⟨(by first | assumption | exact (by omega)), ?_⟩
      refine sX6_foremostBelow (p1 := v3) hI hk1 ?_
      intro x6_936 p937 q938
      refine ⟨fun c => ?_, fun c => ?_⟩
      · refine ⟨by omega, ?_⟩
        refine ⟨by omega, ?_⟩
        intro x10_940 ex10_940 rx10_940
        have bx10_940 : -1 ≤ x10_940 ∧ x10_940 ≤ 29 := by rw [ex10_940]; exact (bx_s1 hk1).mp (hI.bx _ _)
        refine sX10_moveHearse (p3 := x6_936) hI hk1 hk2 (by omega) ?_
        intro M11_941 hM11_941
        exact ih _ _ _ hM11_941 (by omega) (by omega)
      · exact hX36 _ hI
end
