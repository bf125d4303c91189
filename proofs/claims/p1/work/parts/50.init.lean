/-! the machine's classes at the law's entry -/
theorem NXw.of {args : Array Value} {s : State} (hts : ∀ w ∈ lw_tbl, w.before args s = true) : NXw s := fun w hw => by
  have h1 := (List.mem_filter.mp hw).2
  have h2 := hts w (List.mem_filter.mp hw).1
  revert h1 h2
  cases w <;> intro h1 h2 <;> first | exact va_Nw.of rfl h2 | (simp [isNest] at h1)
set_option maxRecDepth 100000 in
theorem K_init {args : Array Value} {s : State} (hts : ∀ w ∈ lw_tbl, w.before args s = true) : ∃ (D : va_G) (τ : Nat → ClassId), va_K D vwCl (ty5 τ) s ∧ NX s := by
  obtain ⟨c0, i0, h0⟩ := u_known (C := RJ0) (T := TJ0) (N := 4) hts (fun w h => lw_gt (iJ0 w h)) (hts _ (lw_gt it_J0))
  obtain ⟨c1, i1, h1⟩ := u_known (C := RX0) (T := TX0) (N := 3) hts (fun w h => lw_gt (iX0 w h)) (hts _ (lw_gt it_X0))
  obtain ⟨c2, i2, h2⟩ := u_known (C := RX1) (T := TX1) (N := 3) hts (fun w h => lw_gt (iX1 w h)) (hts _ (lw_gt it_X1))
  obtain ⟨c3, i3, h3⟩ := u_known (C := RX2) (T := TX2) (N := 6) hts (fun w h => lw_gt (iX2 w h)) (hts _ (lw_gt it_X2))
  obtain ⟨c4, i4, h4⟩ := u_known (C := RX3) (T := TX3) (N := 3) hts (fun w h => lw_gt (iX3 w h)) (hts _ (lw_gt it_X3))
  obtain ⟨c5, i5, h5⟩ := u_known (C := RX4) (T := TX4) (N := 2) hts (fun w h => lw_gt (iX4 w h)) (hts _ (lw_gt it_X4))
  obtain ⟨c6, i6, h6⟩ := u_known (C := RX5) (T := TX5) (N := 4) hts (fun w h => lw_gt (iX5 w h)) (hts _ (lw_gt it_X5))
  obtain ⟨c7, i7, h7⟩ := u_known (C := RX6) (T := TX6) (N := 11) hts (fun w h => lw_gt (iX6 w h)) (hts _ (lw_gt it_X6))
  obtain ⟨c8, i8, h8⟩ := u_known (C := RX7) (T := TX7) (N := 2) hts (fun w h => lw_gt (iX7 w h)) (hts _ (lw_gt it_X7))
  obtain ⟨c9, i9, h9⟩ := u_known (C := RX8) (T := TX8) (N := 4) hts (fun w h => lw_gt (iX8 w h)) (hts _ (lw_gt it_X8))
  obtain ⟨c10, i10, h10⟩ := u_known (C := RX9) (T := TX9) (N := 4) hts (fun w h => lw_gt (iX9 w h)) (hts _ (lw_gt it_X9))
  obtain ⟨c11, i11, h11⟩ := u_known (C := RX10) (T := TX10) (N := 6) hts (fun w h => lw_gt (iX10 w h)) (hts _ (lw_gt it_X10))
  obtain ⟨c12, i12, h12⟩ := u_known (C := RX11) (T := TX11) (N := 18) hts (fun w h => lw_gt (iX11 w h)) (hts _ (lw_gt it_X11))
  obtain ⟨c13, i13, h13⟩ := u_known (C := RX12) (T := TX12) (N := 53) hts (fun w h => lw_gt (iX12 w h)) (hts _ (lw_gt it_X12))
  obtain ⟨a0, k0, m0, e0, f0, g0⟩ := Cond.arrayClass_spec (hts _ (lw_gt ac_int))
  obtain ⟨a1, k1, m1, e1, f1, g1⟩ := Cond.arrayClass_spec (hts _ (lw_gt ac_long))
  obtain ⟨a2, k2, m2, e2, f2, g2⟩ := Cond.arrayClass_spec (hts _ (lw_gt ac_boolean))
  obtain ⟨m3, a3, k3, p3, q3, f3, g3, e3⟩ := Cond.arrayOver_spec (hts _ ao_S)
  obtain ⟨m4, a4, k4, p4, q4, f4, g4, e4⟩ := AOA_spec (va_AOA.of (hts _ ao_I))
  refine ⟨(fun k => ([c0, c1, c2, c3, c4, c5, c6, c7, c8, c9, c10, c11, c12, c13] : List ClassId).getD k c0, fun k => ([i0, i1, i2, i3, i4, i5, i6, i7, i8, i9, i10, i11, i12, i13] : List (Nat → Nat)).getD k i0), fun k => ([a0, a1, a2, a3, a4] : List ClassId).getD k a0, ⟨fun k q hq => ?_, fun k q hq => ?_⟩, NXw.of hts, va_AO.of (hts _ ao_S), va_AOA.of (hts _ ao_I)⟩
  · match k, hq with
    | 0, hq => cases hq; exact h0
    | 1, hq => cases hq; exact h1
    | 2, hq => cases hq; exact h2
    | 3, hq => cases hq; exact h3
    | 4, hq => cases hq; exact h4
    | 5, hq => cases hq; exact h5
    | 6, hq => cases hq; exact h6
    | 7, hq => cases hq; exact h7
    | 8, hq => cases hq; exact h8
    | 9, hq => cases hq; exact h9
    | 10, hq => cases hq; exact h10
    | 11, hq => cases hq; exact h11
    | 12, hq => cases hq; exact h12
    | 13, hq => cases hq; exact h13
    | k + 14, hq => simp [vwCl] at hq
  · match k, hq with
    | 0, hq => cases hq; exact ⟨fun n z => ⟨fun k h => (by cases h), k0, f0, m0, g0⟩, e0⟩
    | 1, hq => cases hq; exact ⟨fun n z => ⟨fun k h => (by cases h), k1, f1, m1, g1⟩, e1⟩
    | 2, hq => cases hq; exact ⟨fun n z => ⟨fun k h => (by cases h), k2, f2, m2, g2⟩, e2⟩
    | 3, hq => cases hq; exact ⟨fun n z => ⟨fun k h => (by cases h), k3, f3, m3, g3⟩, k3, m3, f3, g3, p3, e3⟩
    | 4, hq => cases hq; exact ⟨fun n z => ⟨fun k h => (by cases h), k4, f4, m4, g4⟩, e4⟩
    | k + 5, hq => simp [ty5] at hq
section RS
variable {p : Program} {l : Launch} {e : Env} {R : Room} {s : State} {m : MethodId} {args : Array Value} {below : List Frame} {meth : Method} {c : Code} {H : Heap} {locs : List Loc} {cells slots : Nat} {Q : State → Prop} {cc : ByteArray} {pc : Nat} {ls : Array Slot} {rest : List Value} {D : va_G} {A : Nat → Prop} {ws : va_W}
theorem r_sld (hx : p.tables.exec = Jvm.exec) (hb : c.code = cc) {b L : Nat} {xs : Nat → Int32} (hX : va_X b L xs s s.heap) (hbl : b < s.heap.size) (hbA : ¬ A b) (hw : wS D A s.heap ws H locs) {z v : Int} (h0 : 0 ≤ z) (h1 : z < (L : Int)) (hL : L ≤ 2147483647) (hv : xs z.toNat = iI v) (hd : decode cc pc = .ok (.iaload, 1)) (kk : W p l e R s m args below meth c H locs cells slots Q (F0 m (pc + 1) ls (.int (iI v) :: rest))) : W p l e R s m args below meth c H locs cells slots Q (F0 m pc ls (.int (iI z) :: .ref b :: rest)) := by
  refine va_sld hx hb hX hbl hbA hw.2.2 (iI_in h0 h1 hL) hd ?_
  rw [iI_clamp ⟨by omega, by omega⟩, hv]
  exact kk
theorem r_slen (hx : p.tables.exec = Jvm.exec) (hb : c.code = cc) {b L : Nat} {xs : Nat → Int32} (hX : va_X b L xs s s.heap) (hbl : b < s.heap.size) (hbA : ¬ A b) (hw : wS D A s.heap ws H locs) (hd : decode cc pc = .ok (.arraylength, 1)) (kk : W p l e R s m args below meth c H locs cells slots Q (F0 m (pc + 1) ls (.int (iI (L : Int)) :: rest))) : W p l e R s m args below meth c H locs cells slots Q (F0 m pc ls (.ref b :: rest)) := by
  refine va_slen hx hb hX hbl hbA hw.2.2 hd ?_
  rw [show Int32.ofNat L = iI (L : Int) from rfl]
  exact kk
end RS
