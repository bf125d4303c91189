/-! the machine's classes at the law's entry -/
theorem NXw.of {args : Array Value} {s : State} (hts : ∀ w ∈ lw_tbl, w.before args s = true) : NXw s := fun w hw => by
  have h1 := (List.mem_filter.mp hw).2
  have h2 := hts w (List.mem_filter.mp hw).1
  revert h1 h2
  cases w <;> intro h1 h2 <;> first | exact absurd h1 Bool.false_ne_true | exact va_Nw.of rfl h2 | (simp [isNest] at h1)
set_option maxRecDepth 100000 in
theorem K_init {args : Array Value} {s : State} (hts : ∀ w ∈ lw_tbl, w.before args s = true) : ∃ (D : va_G) (τ : Nat → ClassId), va_K D vwCl (ty5 τ) s ∧ NX s := by
  obtain ⟨c0, i0, h0⟩ := u_known (C := RJ0) (T := TJ0) (N := 4) hts (fun w h => lw_gt (iJ0 w h)) (hts _ (lw_gt it_J0))
  obtain ⟨c1, i1, h1⟩ := u_known (C := RX0) (T := TX0) (N := 3) hts (fun w h => lw_gt (iX0 w h)) (hts _ (lw_gt it_X0))
  obtain ⟨c2, i2, h2⟩ := u_known (C := RX1) (T := TX1) (N := 3) hts (fun w h => lw_gt (iX1 w h)) (hts _ (lw_gt it_X1))
  obtain ⟨c3, i3, h3⟩ := u_known (C := RX2) (T := TX2) (N := 6) hts (fun w h => lw_gt (iX2 w h)) (hts _ (lw_gt it_X2))
  obtain ⟨c4, i4, h4⟩ := u_known (C := RX3) (T := TX3) (N := 3) hts (fun w h => lw_gt (iX3 w h)) (hts _ (lw_gt it_X3))
  obtain ⟨c5, i5, h5⟩ := u_known (C := RX4) (T := TX4) (N := 2) hts (fun w h => lw_gt (iX4 w h)) (hts _ (lw_gt it_X4))
  obtain ⟨c6, i6, h6⟩ := u_known (C := RX5) (T := TX5) (N := 4) hts (fun w h => lw_gt (iX5 w h)) (hts _ (lw_gt it_X5))
  obtain ⟨c7, i7, h7⟩ := u_known (C := RX6) (T := TX6) (N := 11) hts (fun w h => lw_gt (iX6 w h)) (hts _ (lw_gt it_X6))
  obtain ⟨c8, i8, h8⟩ := u_known (C := RX7) (T := TX7) (N := 2) hts (fun w h => lw_gt (iX7 w h)) (hts _ (lw_gt it_X7))
  obtain ⟨c9, i9, h9⟩ := u_known (C := RX8) (T := TX8) (N := 4) hts (fun w h => lw_gt (iX8 w h)) (hts _ (lw_gt it_X8))
  obtain ⟨c10, i10, h10⟩ := u_known (C := RX9) (T := TX9) (N := 4) hts (fun w h => lw_gt (iX9 w h)) (hts _ (lw_gt it_X9))
  obtain ⟨c11, i11, h11⟩ := u_known (C := RX10) (T := TX10) (N := 6) hts (fun w h => lw_gt (iX10 w h)) (hts _ (lw_gt it_X10))
  obtain ⟨c12, i12, h12⟩ := u_known (C := RX11) (T := TX11) (N := 18) hts (fun w h => lw_gt (iX11 w h)) (hts _ (lw_gt it_X11))
  obtain ⟨c13, i13, h13⟩ := u_known (C := RX12) (T := TX12) (N := 53) hts (fun w h => lw_gt (iX12 w h)) (hts _ (lw_gt it_X12))
  obtain ⟨a0, k0, m0, e0, f0, g0⟩ := Cond.arrayClass_spec (hts _ (lw_gt ac_int))
  obtain ⟨a1, k1, m1, e1, f1, g1⟩ := Cond.arrayClass_spec (hts _ (lw_gt ac_long))
  obtain ⟨a2, k2, m2, e2, f2, g2⟩ := Cond.arrayClass_spec (hts _ (lw_gt ac_boolean))
  obtain ⟨m3, a3, k3, p3, q3, f3, g3, e3⟩ := Cond.arrayOver_spec (hts _ ao_S)
  obtain ⟨m4, a4, k4, p4, q4, f4, g4, e4⟩ := AOA_spec (va_AOA.of (hts _ ao_I))
  refine ⟨(fun k => ([c0, c1, c2, c3, c4, c5, c6, c7, c8, c9, c10, c11, c12, c13] : List ClassId).getD k c0, fun k => ([i0, i1, i2, i3, i4, i5, i6, i7, i8, i9, i10, i11, i12, i13] : List (Nat → Nat)).getD k i0), fun k => ([a0, a1, a2, a3, a4] : List ClassId).getD k a0, ⟨fun k q hq => ?_, fun k q hq => ?_⟩, NXw.of hts, va_AO.of (hts _ ao_S), va_AOA.of (hts _ ao_I)⟩
  · match k, hq with
    | 0, hq => cases hq; exact h0
    | 1, hq => cases hq; exact h1
    | 2, hq => cases hq; exact h2
    | 3, hq => cases hq; exact h3
    | 4, hq => cases hq; exact h4
    | 5, hq => cases hq; exact h5
    | 6, hq => cases hq; exact h6
    | 7, hq => cases hq; exact h7
    | 8, hq => cases hq; exact h8
    | 9, hq => cases hq; exact h9
    | 10, hq => cases hq; exact h10
    | 11, hq => cases hq; exact h11
    | 12, hq => cases hq; exact h12
    | 13, hq => cases hq; exact h13
    | k + 14, hq => simp [vwCl] at hq
  · match k, hq with
    | 0, hq => cases hq; exact ⟨fun n z => ⟨fun k h => (by cases h), k0, f0, m0, g0⟩, e0⟩
    | 1, hq => cases hq; exact ⟨fun n z => ⟨fun k h => (by cases h), k1, f1, m1, g1⟩, e1⟩
    | 2, hq => cases hq; exact ⟨fun n z => ⟨fun k h => (by cases h), k2, f2, m2, g2⟩, e2⟩
    | 3, hq => cases hq; exact ⟨fun n z => ⟨fun k h => (by cases h), k3, f3, m3, g3⟩, k3, m3, f3, g3, p3, e3⟩
    | 4, hq => cases hq; exact ⟨fun n z => ⟨fun k h => (by cases h), k4, f4, m4, g4⟩, e4⟩
    | k + 5, hq => simp [ty5] at hq
section RS
variable {p : Program} {l : Launch} {e : Env} {R : Room} {s : State} {m : MethodId} {args : Array Value} {below : List Frame} {meth : Method} {c : Code} {H : Heap} {locs : List Loc} {cells slots : Nat} {Q : State → Prop} {cc : ByteArray} {pc : Nat} {ls : Array Slot} {rest : List Value} {D : va_G} {A : Nat → Prop} {ws : va_W}
theorem r_sld (hx : p.tables.exec = Jvm.exec) (hb : c.code = cc) {b L : Nat} {xs : Nat → Int32} (hX : va_X b L xs s s.heap) (hbl : b < s.heap.size) (hbA : ¬ A b) (hw : wS D A s.heap ws H locs) {z v : Int} (h0 : 0 ≤ z) (h1 : z < (L : Int)) (hL : L ≤ 2147483647) (hv : xs z.toNat = iI v) (hd : decode cc pc = .ok (.iaload, 1)) (kk : W p l e R s m args below meth c H locs cells slots Q (F0 m (pc + 1) ls (.int (iI v) :: rest))) : W p l e R s m args below meth c H locs cells slots Q (F0 m pc ls (.int (iI z) :: .ref b :: rest)) := by
  refine va_sld hx hb hX hbl hbA hw.2.2 (iI_in h0 h1 hL) hd ?_
  rw [iI_clamp ⟨by omega, by omega⟩, hv]
  exact kk
theorem r_slen (hx : p.tables.exec = Jvm.exec) (hb : c.code = cc) {b L : Nat} {xs : Nat → Int32} (hX : va_X b L xs s s.heap) (hbl : b < s.heap.size) (hbA : ¬ A b) (hw : wS D A s.heap ws H locs) (hd : decode cc pc = .ok (.arraylength, 1)) (kk : W p l e R s m args below meth c H locs cells slots Q (F0 m (pc + 1) ls (.int (iI (L : Int)) :: rest))) : W p l e R s m args below meth c H locs cells slots Q (F0 m pc ls (.ref b :: rest)) := by
  refine va_slen hx hb hX hbl hbA hw.2.2 hd ?_
  rw [show Int32.ofNat L = iI (L : Int) from rfl]
  exact kk
end RS
section RCW
variable {p : Program} {l : Launch} {e : Env} {R : Room} {s : State} {m : MethodId} {args : Array Value} {below : List Frame} {meth : Method} {c : Code} {H : Heap} {locs : List Loc} {cells slots : Nat} {Q : State → Prop}
variable {cc : ByteArray} {pc : Nat} {ls : Array Slot} {rest st0 : List Value} {D : va_G} {A : Nat → Prop} {ws wc wr : va_W} {τ : Nat → ClassId} {own : String}
variable {y : MethodName} {b : ByteArray} {mL n lev index nL cells' slots' : Nat} {sA sV : Nat → Nat} {As : List Value} {hh : List (Nat × Nat × Nat × Nat)}
theorem g_cW {E : Int → va_W → Prop} (hx : p.tables.exec = Jvm.exec) (hb : c.code = cc) (hml : c.maxLocals = nL) (hC : cx D τ s m args own) (hA : ∀ q, s.heap.size ≤ q → A q) (hLS : LK A s s.heap sA sV) (hXX : XX A s) (hw : wS D A s.heap ws H locs) (hl : ls.size = nL) (M : Met l y (.codeWith y b mL (some .int) hh :: lw_good) (rmk lev 1 6) (xPc D τ sA sV wc H.size As) (gQi D E (va_A wc H.size)) 1 6 (va_A wc H.size)) (hg : ∀ w ∈ va_wsS own index y (Cond.codeWith y b mL (some .int) hh :: lw_good), w ∈ lw_good) (hd2 : y.cls ≠ "java/lang/invoke/MethodHandle" ∧ y.cls ≠ "java/lang/invoke/VarHandle" ∧ (parseMethodDescriptor y.desc).map (fun d => d.parameters.length) = some n) (isC isR : List Nat) (hCm : isC.map (fun i => ws[i]?) = wc.map some) (hRm : isR.map (fun i => ws[i]?) = wr.map some) (hnC : va_nd isC = true) (hnR : va_nd isR = true) (hdis : ∀ i ∈ isR, i ∉ isC) (hst : st0 = As.reverse ++ rest) (hn : As.length = n) (hcat : (rest.map fun v => v.category).sum ≤ 8) (hroom : lev + 1 ≤ R.frames ∧ 8 + (mL + 11) + 64 * lev ≤ R.locals) (hcs : cells + 1 ≤ R.cells ∧ slots + 6 ≤ R.slots) (hc2 : cells + 1 = cells') (hs2 : slots + 6 = slots') (hd : decode cc pc = .ok (.invokestatic index, 3))
    (kk : ∀ (z : Int) (w1 : va_W) (H : Heap) (locs : List Loc), iR z → E z w1 → wS D A s.heap (wr ++ w1) H locs → W p l e R s m args below meth c H locs cells' slots' Q (F0 m (pc + 3) ls (.int (iI z) :: rest))) : W p l e R s m args below meth c H locs cells slots Q (F0 m pc ls st0) := by
  have hF := va_free hw.2.1 hw.2.2 hA isC hCm
  refine va_calli (vx_runSW ⟨hx, hb, hml, hC.2.1, hC.1⟩ M (vx_cwSW n hC.1 (g_good (fun _ h => h) hg) rfl rfl rfl hd2 hroom) ⟨xPc_blind, x_pre rfl hC hA hLS hXX hw hCm hnC⟩ rfl hn hl hst (lv_room hcat) hd hcs) hw.2.2 (fun q _ h => hF q h) hF (fun r u t H1 locs1 ht hvm hp hB hsz hk1 hS => ?_)
  obtain ⟨z, hz, e1, hB⟩ := hB
  obtain ⟨w1, hE, h1⟩ := g_behind hw hA hCm hRm hnR hdis ht hk1 hS hB
  subst hc2
  subst hs2
  rw [hp, e1]
  exact kk z w1 H1 locs1 hz hE h1
end RCW

theorem g_law {idx mL : Nat} {y : MethodName} {b : ByteArray} {hh : List (Nat × Nat × Nat × Nat)} (h1 : Cond.methodLink RL idx y ∈ lw_good) (h2 : Cond.static y ∈ lw_good) (h3 : Cond.initialized y.cls ∈ lw_good) (h4 : Cond.codeWith y b mL (some .int) hh ∈ lw_good) : ∀ w ∈ va_wsS RL idx y (Cond.codeWith y b mL (some .int) hh :: lw_good), w ∈ lw_good := by
  unfold va_wsS
  exact mem1 h1 (mem1 h2 (mem1 h3 (mem1 h4 (fun _ h => h))))

set_option maxRecDepth 100000 in
theorem g_law_hearse : ∀ w ∈ va_wsS RL 57 yL_hearse (Cond.codeWith yL_hearse cL_hearse 5 (some .int) [(0, 10, 13, 13)] :: lw_good), w ∈ lw_good := g_law (lw_h5 159 rfl rfl) (lw_h5 160 rfl rfl) (lw_h1 0 rfl rfl) (lw_h5 161 rfl rfl)
set_option maxRecDepth 100000 in
theorem g_law_mourner : ∀ w ∈ va_wsS RL 63 yL_mourner (Cond.codeWith yL_mourner cL_mourner 5 (some .int) [(0, 10, 13, 13)] :: lw_good), w ∈ lw_good := g_law (lw_h5 239 rfl rfl) (lw_h6 0 rfl rfl) (lw_h1 0 rfl rfl) (lw_h6 1 rfl rfl)
set_option maxRecDepth 100000 in
theorem g_law_row : ∀ w ∈ va_wsS RL 200 yL_row (Cond.codeWith yL_row cL_row 4 (some .int) [(0, 8, 11, 13)] :: lw_good), w ∈ lw_good := g_law (lw_h6 9 rfl rfl) (lw_h6 10 rfl rfl) (lw_h1 0 rfl rfl) (lw_h6 11 rfl rfl)
theorem SX_of {D : va_G} {τ : Nat → ClassId} {s : State} {b : Addr} {k : Nat} {tx : String} (hts : ∀ w ∈ lw_tbl, w.before #[Value.ref b] s = true) (hK : va_K D vwCl (ty5 τ) s) (h : Cond.stringRef RX11 k tx ∈ lw_tbl) : SX k tx s := by
  have hcur : s.vm.findClass RX11 = some (D.1 12) := (hK.1 12 (RX11, TX11, 18) rfl).2.1
  obtain ⟨_, _, _, a, -, -, -, -, -, ha⟩ := Cond.stringRef_spec hcur (hts _ h)
  exact ⟨a, vk_R.of (hts _ h) ha⟩
set_option maxRecDepth 100000 in
theorem TX_of {A : Nat → Prop} {s : State} {b : Addr} (hts : ∀ w ∈ lw_tbl, w.before #[Value.ref b] s = true) (hgv : (Jvm.Cond.and given_1 narrow_1).before #[Value.ref b] s = true) (hA : ∀ a : Nat, a < s.heap.size → ¬ A a) : TX A s := by
  have hs := flat_of_before _ hgv
  exact ⟨vx_Zqof (hts _ (by decide +kernel)) (hts (Cond.initialized Bundle.tN) (List.mem_append_right _ (lw_m1 22 rfl))) (hs _ (by decide +kernel)) hA, vx_Zqof (hts _ (by decide +kernel)) (hts (Cond.initialized Bundle.tN) (List.mem_append_right _ (lw_m1 22 rfl))) (hs _ (by decide +kernel)) hA⟩
theorem str_one {A : Nat → Prop} {s : State} {b : Addr} {own tx : String} {k n : Nat} {bs : List Int} (hts : ∀ w ∈ lw_tbl, w.before #[Value.ref b] s = true) (hA : ∀ a : Nat, a < s.heap.size → ¬ A a) (hn : n < 2 ^ 31) (hl : bs.length = n) (hb : ∀ x ∈ bs, 0 ≤ x ∧ x < 128) (h100 : n ≤ 100) (h0 : Cond.stringRef own k tx ∈ lw_tbl)
    (h1 : (Cond.exactly (.string own k) "java/lang/String").before #[Value.ref b] s = true) (h2 : (Cond.eq (.field (.string own k) "java/lang/String" "coder" "B") (.int 0)).before #[Value.ref b] s = true) (h3 : (Cond.arrayOf (.field (.string own k) "java/lang/String" "value" "[B") .byte).before #[Value.ref b] s = true) (h4 : (Cond.eq (.length (.field (.string own k) "java/lang/String" "value" "[B")) (.int (Int32.ofNat n))).before #[Value.ref b] s = true)
    (h5 : ∀ j, j < n → (Cond.eq (.elem (.field (.string own k) "java/lang/String" "value" "[B") (.int (Int32.ofNat j))) (.int (iI (bs.getD j 0)))).before #[Value.ref b] s = true) : ∃ sa sv : Nat, vk_R own k tx sa s ∧ ST A s s.heap sa sv bs := by
  obtain ⟨adK, adV, hS, hev⟩ := vk_Sof (args := #[Value.ref b]) (s := s) (N := 1) (tm := fun _ => Term.string own k) (len := [n]) (byt := [bs.map iI]) (A := A)
    (fun i hi => by obtain rfl : i = 0 := by omega
                    exact hn) (fun i hi => h1) (fun i hi => h2) (fun i hi => h3)
    (fun i hi => by obtain rfl : i = 0 := by omega
                    exact h4)
    (fun i hi j hj => by obtain rfl : i = 0 := by omega
                         have hj : j < n := hj
                         have h6 := h5 j hj
                         have h7 : (bs.map iI).getD j 0 = iI (bs.getD j 0) := by
                           rw [List.getD_eq_getElem?_getD, List.getD_eq_getElem?_getD, List.getElem?_map]
                           rw [List.getElem?_eq_getElem (by omega)]
                           rfl
                         show (Cond.eq _ (.int ((bs.map iI).getD j 0))).before _ _ = true
                         rw [h7]
                         exact h6)
    (fun i j hi hj hij => (hij (by omega)).elim) hA
  have g := hS.1 0 (by decide)
  refine ⟨adK 0, adV 0, vk_R.of (hts _ h0) (hev 0 (by decide)), g.1, g.2.1, g.2.2.1, ?_, hb, by omega⟩
  have g4 := g.2.2.2
  obtain ⟨cell, c1, c2, c3, c4, c5, c6, c7⟩ := g4
  subst hl
  refine ⟨cell, c1, c2, c3, c4, c5, fun j hj => ?_, c7⟩
  rw [c6 j hj]
  show some (Value.int ((bs.map iI).getD j 0)) = some (Value.int (iI (bs.getD j 0)))
  rw [List.getD_eq_getElem?_getD, List.getElem?_map, List.getD_eq_getElem?_getD, List.getElem?_eq_getElem hj]
  rfl
set_option maxRecDepth 100000 in
theorem LK_of {A : Nat → Prop} {s : State} {b : Addr} (hts : ∀ w ∈ lw_tbl, w.before #[Value.ref b] s = true) (hgv : (Jvm.Cond.and given_1 narrow_1).before #[Value.ref b] s = true) (hA : ∀ a : Nat, a < s.heap.size → ¬ A a) : ∃ sA sV : Nat → Nat, LK A s s.heap sA sV := by
  have hs := flat_of_before _ hgv
  obtain ⟨a0, v0, r0, t0⟩ := str_one (own := RX5) (k := 79) (tx := "pgcwtim") (n := 7) (bs := [112, 103, 99, 119, 116, 105, 109]) hts hA (by decide) rfl (by decide) (by decide) (List.mem_of_getElem? (i := 643) rfl) (hs (Cond.exactly (.string RX5 79) "java/lang/String") (List.mem_of_getElem? (i := 25) rfl)) (hs (Cond.eq (.field (.string RX5 79) "java/lang/String" "coder" "B") (.int 0)) (List.mem_of_getElem? (i := 26) rfl)) (hs (Cond.arrayOf (.field (.string RX5 79) "java/lang/String" "value" "[B") .byte) (List.mem_of_getElem? (i := 27) rfl)) (hs (Cond.eq (.length (.field (.string RX5 79) "java/lang/String" "value" "[B")) (.int 7)) (List.mem_of_getElem? (i := 28) rfl)) (fun j hj => match j, hj with | 0, _ => hs (Cond.eq (.elem (.field (.string RX5 79) "java/lang/String" "value" "[B") (.int 0)) (.int 112)) (List.mem_of_getElem? (i := 29) rfl) | 1, _ => hs (Cond.eq (.elem (.field (.string RX5 79) "java/lang/String" "value" "[B") (.int 1)) (.int 103)) (List.mem_of_getElem? (i := 30) rfl) | 2, _ => hs (Cond.eq (.elem (.field (.string RX5 79) "java/lang/String" "value" "[B") (.int 2)) (.int 99)) (List.mem_of_getElem? (i := 31) rfl) | 3, _ => hs (Cond.eq (.elem (.field (.string RX5 79) "java/lang/String" "value" "[B") (.int 3)) (.int 119)) (List.mem_of_getElem? (i := 32) rfl) | 4, _ => hs (Cond.eq (.elem (.field (.string RX5 79) "java/lang/String" "value" "[B") (.int 4)) (.int 116)) (List.mem_of_getElem? (i := 33) rfl) | 5, _ => hs (Cond.eq (.elem (.field (.string RX5 79) "java/lang/String" "value" "[B") (.int 5)) (.int 105)) (List.mem_of_getElem? (i := 34) rfl) | 6, _ => hs (Cond.eq (.elem (.field (.string RX5 79) "java/lang/String" "value" "[B") (.int 6)) (.int 109)) (List.mem_of_getElem? (i := 35) rfl) | j + 7, h => absurd h (by omega))
  obtain ⟨a1, v1, r1, t1⟩ := str_one (own := RX12) (k := 180) (tx := ".c") (n := 2) (bs := [46, 99]) hts hA (by decide) rfl (by decide) (by decide) (List.mem_of_getElem? (i := 1485) rfl) (hs (Cond.exactly (.string RX12 180) "java/lang/String") (List.mem_of_getElem? (i := 176) rfl)) (hs (Cond.eq (.field (.string RX12 180) "java/lang/String" "coder" "B") (.int 0)) (List.mem_of_getElem? (i := 177) rfl)) (hs (Cond.arrayOf (.field (.string RX12 180) "java/lang/String" "value" "[B") .byte) (List.mem_of_getElem? (i := 178) rfl)) (hs (Cond.eq (.length (.field (.string RX12 180) "java/lang/String" "value" "[B")) (.int 2)) (List.mem_of_getElem? (i := 179) rfl)) (fun j hj => match j, hj with | 0, _ => hs (Cond.eq (.elem (.field (.string RX12 180) "java/lang/String" "value" "[B") (.int 0)) (.int 46)) (List.mem_of_getElem? (i := 180) rfl) | 1, _ => hs (Cond.eq (.elem (.field (.string RX12 180) "java/lang/String" "value" "[B") (.int 1)) (.int 99)) (List.mem_of_getElem? (i := 181) rfl) | j + 2, h => absurd h (by omega))
  obtain ⟨a2, v2, r2, t2⟩ := str_one (own := RX12) (k := 205) (tx := "abcdef") (n := 6) (bs := [97, 98, 99, 100, 101, 102]) hts hA (by decide) rfl (by decide) (by decide) (List.mem_of_getElem? (i := 1564) rfl) (hs (Cond.exactly (.string RX12 205) "java/lang/String") (List.mem_of_getElem? (i := 188) rfl)) (hs (Cond.eq (.field (.string RX12 205) "java/lang/String" "coder" "B") (.int 0)) (List.mem_of_getElem? (i := 189) rfl)) (hs (Cond.arrayOf (.field (.string RX12 205) "java/lang/String" "value" "[B") .byte) (List.mem_of_getElem? (i := 190) rfl)) (hs (Cond.eq (.length (.field (.string RX12 205) "java/lang/String" "value" "[B")) (.int 6)) (List.mem_of_getElem? (i := 191) rfl)) (fun j hj => match j, hj with | 0, _ => hs (Cond.eq (.elem (.field (.string RX12 205) "java/lang/String" "value" "[B") (.int 0)) (.int 97)) (List.mem_of_getElem? (i := 192) rfl) | 1, _ => hs (Cond.eq (.elem (.field (.string RX12 205) "java/lang/String" "value" "[B") (.int 1)) (.int 98)) (List.mem_of_getElem? (i := 193) rfl) | 2, _ => hs (Cond.eq (.elem (.field (.string RX12 205) "java/lang/String" "value" "[B") (.int 2)) (.int 99)) (List.mem_of_getElem? (i := 194) rfl) | 3, _ => hs (Cond.eq (.elem (.field (.string RX12 205) "java/lang/String" "value" "[B") (.int 3)) (.int 100)) (List.mem_of_getElem? (i := 195) rfl) | 4, _ => hs (Cond.eq (.elem (.field (.string RX12 205) "java/lang/String" "value" "[B") (.int 4)) (.int 101)) (List.mem_of_getElem? (i := 196) rfl) | 5, _ => hs (Cond.eq (.elem (.field (.string RX12 205) "java/lang/String" "value" "[B") (.int 5)) (.int 102)) (List.mem_of_getElem? (i := 197) rfl) | j + 6, h => absurd h (by omega))
  obtain ⟨a3, v3, r3, t3⟩ := str_one (own := RJ1) (k := 151) (tx := "") (n := 0) (bs := []) hts hA (by decide) rfl (by decide) (by decide) (List.mem_of_getElem? (i := 1573) rfl) (hs (Cond.exactly (.string RJ1 151) "java/lang/String") (List.mem_of_getElem? (i := 205) rfl)) (hs (Cond.eq (.field (.string RJ1 151) "java/lang/String" "coder" "B") (.int 0)) (List.mem_of_getElem? (i := 206) rfl)) (hs (Cond.arrayOf (.field (.string RJ1 151) "java/lang/String" "value" "[B") .byte) (List.mem_of_getElem? (i := 207) rfl)) (hs (Cond.eq (.length (.field (.string RJ1 151) "java/lang/String" "value" "[B")) (.int 0)) (List.mem_of_getElem? (i := 208) rfl)) (fun j hj => absurd hj (by omega))
  obtain ⟨a4, v4, r4, t4⟩ := str_one (own := RX12) (k := 241) (tx := "pgcwtim") (n := 7) (bs := [112, 103, 99, 119, 116, 105, 109]) hts hA (by decide) rfl (by decide) (by decide) (List.mem_of_getElem? (i := 1663) rfl) (hs (Cond.exactly (.string RX12 241) "java/lang/String") (List.mem_of_getElem? (i := 230) rfl)) (hs (Cond.eq (.field (.string RX12 241) "java/lang/String" "coder" "B") (.int 0)) (List.mem_of_getElem? (i := 231) rfl)) (hs (Cond.arrayOf (.field (.string RX12 241) "java/lang/String" "value" "[B") .byte) (List.mem_of_getElem? (i := 232) rfl)) (hs (Cond.eq (.length (.field (.string RX12 241) "java/lang/String" "value" "[B")) (.int 7)) (List.mem_of_getElem? (i := 233) rfl)) (fun j hj => match j, hj with | 0, _ => hs (Cond.eq (.elem (.field (.string RX12 241) "java/lang/String" "value" "[B") (.int 0)) (.int 112)) (List.mem_of_getElem? (i := 234) rfl) | 1, _ => hs (Cond.eq (.elem (.field (.string RX12 241) "java/lang/String" "value" "[B") (.int 1)) (.int 103)) (List.mem_of_getElem? (i := 235) rfl) | 2, _ => hs (Cond.eq (.elem (.field (.string RX12 241) "java/lang/String" "value" "[B") (.int 2)) (.int 99)) (List.mem_of_getElem? (i := 236) rfl) | 3, _ => hs (Cond.eq (.elem (.field (.string RX12 241) "java/lang/String" "value" "[B") (.int 3)) (.int 119)) (List.mem_of_getElem? (i := 237) rfl) | 4, _ => hs (Cond.eq (.elem (.field (.string RX12 241) "java/lang/String" "value" "[B") (.int 4)) (.int 116)) (List.mem_of_getElem? (i := 238) rfl) | 5, _ => hs (Cond.eq (.elem (.field (.string RX12 241) "java/lang/String" "value" "[B") (.int 5)) (.int 105)) (List.mem_of_getElem? (i := 239) rfl) | 6, _ => hs (Cond.eq (.elem (.field (.string RX12 241) "java/lang/String" "value" "[B") (.int 6)) (.int 109)) (List.mem_of_getElem? (i := 240) rfl) | j + 7, h => absurd h (by omega))
  obtain ⟨a5, v5, r5, t5⟩ := str_one (own := RX12) (k := 246) (tx := "<>=") (n := 3) (bs := [60, 62, 61]) hts hA (by decide) rfl (by decide) (by decide) (List.mem_of_getElem? (i := 1664) rfl) (hs (Cond.exactly (.string RX12 246) "java/lang/String") (List.mem_of_getElem? (i := 251) rfl)) (hs (Cond.eq (.field (.string RX12 246) "java/lang/String" "coder" "B") (.int 0)) (List.mem_of_getElem? (i := 252) rfl)) (hs (Cond.arrayOf (.field (.string RX12 246) "java/lang/String" "value" "[B") .byte) (List.mem_of_getElem? (i := 253) rfl)) (hs (Cond.eq (.length (.field (.string RX12 246) "java/lang/String" "value" "[B")) (.int 3)) (List.mem_of_getElem? (i := 254) rfl)) (fun j hj => match j, hj with | 0, _ => hs (Cond.eq (.elem (.field (.string RX12 246) "java/lang/String" "value" "[B") (.int 0)) (.int 60)) (List.mem_of_getElem? (i := 255) rfl) | 1, _ => hs (Cond.eq (.elem (.field (.string RX12 246) "java/lang/String" "value" "[B") (.int 1)) (.int 62)) (List.mem_of_getElem? (i := 256) rfl) | 2, _ => hs (Cond.eq (.elem (.field (.string RX12 246) "java/lang/String" "value" "[B") (.int 2)) (.int 61)) (List.mem_of_getElem? (i := 257) rfl) | j + 3, h => absurd h (by omega))
  obtain ⟨a6, v6, r6, t6⟩ := str_one (own := RX12) (k := 248) (tx := "+-") (n := 2) (bs := [43, 45]) hts hA (by decide) rfl (by decide) (by decide) (List.mem_of_getElem? (i := 1665) rfl) (hs (Cond.exactly (.string RX12 248) "java/lang/String") (List.mem_of_getElem? (i := 269) rfl)) (hs (Cond.eq (.field (.string RX12 248) "java/lang/String" "coder" "B") (.int 0)) (List.mem_of_getElem? (i := 270) rfl)) (hs (Cond.arrayOf (.field (.string RX12 248) "java/lang/String" "value" "[B") .byte) (List.mem_of_getElem? (i := 271) rfl)) (hs (Cond.eq (.length (.field (.string RX12 248) "java/lang/String" "value" "[B")) (.int 2)) (List.mem_of_getElem? (i := 272) rfl)) (fun j hj => match j, hj with | 0, _ => hs (Cond.eq (.elem (.field (.string RX12 248) "java/lang/String" "value" "[B") (.int 0)) (.int 43)) (List.mem_of_getElem? (i := 273) rfl) | 1, _ => hs (Cond.eq (.elem (.field (.string RX12 248) "java/lang/String" "value" "[B") (.int 1)) (.int 45)) (List.mem_of_getElem? (i := 274) rfl) | j + 2, h => absurd h (by omega))
  obtain ⟨a7, v7, r7, t7⟩ := str_one (own := RX12) (k := 250) (tx := "*/") (n := 2) (bs := [42, 47]) hts hA (by decide) rfl (by decide) (by decide) (List.mem_of_getElem? (i := 1666) rfl) (hs (Cond.exactly (.string RX12 250) "java/lang/String") (List.mem_of_getElem? (i := 287) rfl)) (hs (Cond.eq (.field (.string RX12 250) "java/lang/String" "coder" "B") (.int 0)) (List.mem_of_getElem? (i := 288) rfl)) (hs (Cond.arrayOf (.field (.string RX12 250) "java/lang/String" "value" "[B") .byte) (List.mem_of_getElem? (i := 289) rfl)) (hs (Cond.eq (.length (.field (.string RX12 250) "java/lang/String" "value" "[B")) (.int 2)) (List.mem_of_getElem? (i := 290) rfl)) (fun j hj => match j, hj with | 0, _ => hs (Cond.eq (.elem (.field (.string RX12 250) "java/lang/String" "value" "[B") (.int 0)) (.int 42)) (List.mem_of_getElem? (i := 291) rfl) | 1, _ => hs (Cond.eq (.elem (.field (.string RX12 250) "java/lang/String" "value" "[B") (.int 1)) (.int 47)) (List.mem_of_getElem? (i := 292) rfl) | j + 2, h => absurd h (by omega))
  obtain ⟨a8, v8, r8, t8⟩ := str_one (own := RX12) (k := 377) (tx := "ntpbx") (n := 5) (bs := [110, 116, 112, 98, 120]) hts hA (by decide) rfl (by decide) (by decide) (List.mem_of_getElem? (i := 1822) rfl) (hs (Cond.exactly (.string RX12 377) "java/lang/String") (List.mem_of_getElem? (i := 306) rfl)) (hs (Cond.eq (.field (.string RX12 377) "java/lang/String" "coder" "B") (.int 0)) (List.mem_of_getElem? (i := 307) rfl)) (hs (Cond.arrayOf (.field (.string RX12 377) "java/lang/String" "value" "[B") .byte) (List.mem_of_getElem? (i := 308) rfl)) (hs (Cond.eq (.length (.field (.string RX12 377) "java/lang/String" "value" "[B")) (.int 5)) (List.mem_of_getElem? (i := 309) rfl)) (fun j hj => match j, hj with | 0, _ => hs (Cond.eq (.elem (.field (.string RX12 377) "java/lang/String" "value" "[B") (.int 0)) (.int 110)) (List.mem_of_getElem? (i := 310) rfl) | 1, _ => hs (Cond.eq (.elem (.field (.string RX12 377) "java/lang/String" "value" "[B") (.int 1)) (.int 116)) (List.mem_of_getElem? (i := 311) rfl) | 2, _ => hs (Cond.eq (.elem (.field (.string RX12 377) "java/lang/String" "value" "[B") (.int 2)) (.int 112)) (List.mem_of_getElem? (i := 312) rfl) | 3, _ => hs (Cond.eq (.elem (.field (.string RX12 377) "java/lang/String" "value" "[B") (.int 3)) (.int 98)) (List.mem_of_getElem? (i := 313) rfl) | 4, _ => hs (Cond.eq (.elem (.field (.string RX12 377) "java/lang/String" "value" "[B") (.int 4)) (.int 120)) (List.mem_of_getElem? (i := 314) rfl) | j + 5, h => absurd h (by omega))
  refine ⟨fun i => ([a0, a1, a2, a3, a4, a5, a6, a7, a8] : List Nat).getD i 0, fun i => ([v0, v1, v2, v3, v4, v5, v6, v7, v8] : List Nat).getD i 0, fun i hi => ?_, va_Zof (hts (Cond.laysStatic RJ0 "COMPACT_STRINGS" "Z") (List.mem_append_right _ (lw_m3 95 rfl))) (hts (Cond.initialized RJ0) (List.mem_append_right _ (lw_m1 15 rfl))) (va_eqt (hs (Cond.eq (.static "java/lang/String" "COMPACT_STRINGS" "Z") (.int 1)) (List.mem_of_getElem? (i := 4) rfl))) hA, (vx_Zqof (hts (Cond.laysStatic RJ3 "SIOOBE_FORMATTER" "Ljava/util/function/BiFunction;") (List.mem_append_right _ (lw_m3 136 rfl))) (hts (Cond.initialized RJ3) (List.mem_append_right _ (lw_m1 17 rfl))) (hs _ (by decide +kernel)) hA).1⟩
  match i, hi with
  | 0, _ => exact ⟨r0, t0⟩
  | 1, _ => exact ⟨r1, t1⟩
  | 2, _ => exact ⟨r2, t2⟩
  | 3, _ => exact ⟨r3, t3⟩
  | 4, _ => exact ⟨r4, t4⟩
  | 5, _ => exact ⟨r5, t5⟩
  | 6, _ => exact ⟨r6, t6⟩
  | 7, _ => exact ⟨r7, t7⟩
  | 8, _ => exact ⟨r8, t8⟩
  | i + 9, h => omega
set_option maxRecDepth 100000 in
theorem XX_of {D : va_G} {τ : Nat → ClassId} {A : Nat → Prop} {s : State} {b : Addr} (hts : ∀ w ∈ lw_tbl, w.before #[Value.ref b] s = true) (hgv : (Jvm.Cond.and given_1 narrow_1).before #[Value.ref b] s = true) (hK : va_K D vwCl (ty5 τ) s) (hA : ∀ a : Nat, a < s.heap.size → ¬ A a) : XX A s :=
  ⟨TX_of hts hgv hA, SX_of hts hK (List.mem_of_getElem? (i := 1248) rfl), SX_of hts hK (List.mem_of_getElem? (i := 1280) rfl), SX_of hts hK (List.mem_of_getElem? (i := 1288) rfl), SX_of hts hK (List.mem_of_getElem? (i := 1290) rfl), SX_of hts hK (List.mem_of_getElem? (i := 1298) rfl)⟩
