/-! the reference's common divisor: it ends, at no great depth, and isn't 0 -/
section RM4
variable {p : Program} {l : Launch} {e : Env} {R : Room} {s : State} {m : MethodId} {args : Array Value} {below : List Frame} {meth : Method} {c : Code} {H : Heap} {locs : List Loc} {cells slots : Nat} {Q : State → Prop} {cc : ByteArray} {pc : Nat} {ls : Array Slot} {rest : List Value}
theorem r_laddX (hx : p.tables.exec = Jvm.exec) (hb : c.code = cc) {a b : Int} (hd : decode cc pc = .ok (.ladd, 1)) (k : ∀ z : Int, lR z → lI a + lI b = lI z → W p l e R s m args below meth c H locs cells slots Q (F0 m (pc + 1) ls (.long (lI z) :: rest))) : W p l e R s m args below meth c H locs cells slots Q (F0 m pc ls (.long (lI b) :: .long (lI a) :: rest)) := by
  obtain ⟨z, h1, h2⟩ := lI_of (lI a + lI b)
  exact lv_ladd hx hb hd (by rw [h2]; exact k z h1 h2)
end RM4
def TF : Nat → Nat
  | 0 => 4
  | d + 1 => (3 * TF d) / 2
theorem lrem_f {a b r : Int} (ha : lR a) (hb : lR b) (h0 : ¬ b = 0) (hr : lR r) (e : lI a - lI a / lI b * lI b = lI r) : r.natAbs = a.natAbs % b.natAbs := by
  have hm : Int64.minValue.toInt = -9223372036854775808 := by decide
  have hM : Int64.maxValue.toInt = 9223372036854775807 := by decide
  have e1 : lI a / lI b = lI (a.tdiv b) := (Int64.ofInt_tdiv (by rw [hm]; exact ha.1) (by rw [hM]; exact ha.2) (by rw [hm]; exact hb.1) (by rw [hM]; exact hb.2)).symm
  have e2 : a - a.tdiv b * b = a.tmod b := by
    have := Int.mul_tdiv_add_tmod a b
    rw [Int.mul_comm] at this
    omega
  have e3 : (a.tmod b).natAbs = a.natAbs % b.natAbs := Int.natAbs_tmod a b
  have e4 : a.natAbs % b.natAbs < b.natAbs := Nat.mod_lt _ (by omega)
  rw [e1, lI_mul, lI_sub, e2, lI_eq ⟨by omega, by omega⟩ hr] at e
  rw [← e, e3]
theorem mod_room {a b : Nat} (h0 : 0 < b) (h : b ≤ a) : a % b + b ≤ a := by
  have h1 := Nat.mod_add_div a b
  have h2 : 1 ≤ a / b := (Nat.one_le_div_iff h0).mpr h
  have h3 : b * 1 ≤ b * (a / b) := Nat.mul_le_mul_left b h2
  omega
abbrev E_cm : Int → va_W → Prop := fun z w => (z ≠ 0) ∧ w = []
set_option maxHeartbeats 4000000 in
set_option maxRecDepth 100000 in
theorem cm_d (l : Launch) (D : va_G) (τ : Nat → ClassId) : ∀ (d sz : Nat) (a b : Int), lR a → lR b → b.natAbs < a.natAbs → 3 * a.natAbs + 2 * b.natAbs < TF d → Met l yX12_common (lw_w yX12_common cX12_common 4 (some .long)) (rmk (d + 1) 0 0) (gPc D τ [] sz [.long (lI a), .long (lI b)]) (gQl D E_cm (va_A [] sz)) 0 0 (va_A [] sz) := by
  intro d
  induction d with
  | zero =>
    intro sz a b hp0 hp1 hp2 hp3
    have hp4 : 3 * a.natAbs + 2 * b.natAbs < 4 := hp3
    refine g_met (ret := (some .long)) (Qc := gQl D E_cm) (by decide +kernel) (Nat.le_of_ble_eq_true rfl) ?_
    intro p e s m args below meth c A ls hx hb hml hr hlk hnm hC hA hw hl
    have hl : lv_has ls 4 [(0, .long (lI a)), (2, .long (lI b))] := hl
    have hw : wS D A s.heap [] s.heap [] := hw
    refine lv_lload_n hx hb dX12_common_0 rfl (lv_at hl 1 rfl) ?_
    refine r_lconst (z := 0) hx hb dX12_common_1 (by decide +kernel) ?_
    refine r_lcmp hx hb (by omega) (by decide) dX12_common_2 (fun z1 hz1 hv1 => ?_)
    refine r_if_ne (tgt := 10) hx hb dX12_common_3 (by decide) (by omega) (fun hbr2 => (by exfalso; omega)) (fun hbr2 => ?_)
    refine lv_lload_n hx hb dX12_common_6 rfl (lv_at hl 0 rfl) ?_
    refine lv_goto (tgt := 17) hx hb dX12_common_7 (by decide) ?_
    exact r_lret (z := a) hx hb hr hlk hw [] [] rfl (by decide) (by omega) ⟨(by omega), rfl⟩ dX12_common_17
  | succ d ih =>
    intro sz a b hp0 hp1 hp2 hp3
    have hp4 : 3 * a.natAbs + 2 * b.natAbs < (3 * TF d) / 2 := hp3
    refine g_met (ret := (some .long)) (Qc := gQl D E_cm) (by decide +kernel) (Nat.le_of_ble_eq_true rfl) ?_
    intro p e s m args below meth c A ls hx hb hml hr hlk hnm hC hA hw hl
    have hC : cx D τ s m args RX12 := hC
    have hl : lv_has ls 4 [(0, .long (lI a)), (2, .long (lI b))] := hl
    have hw : wS D A s.heap [] s.heap [] := hw
    refine lv_lload_n hx hb dX12_common_0 rfl (lv_at hl 1 rfl) ?_
    refine r_lconst (z := 0) hx hb dX12_common_1 (by decide +kernel) ?_
    refine r_lcmp hx hb (by omega) (by decide) dX12_common_2 (fun z1 hz1 hv1 => ?_)
    refine r_if_ne (tgt := 10) hx hb dX12_common_3 (by decide) (by omega) (fun hbr2 => ?_) (fun hbr2 => ?_)
    · refine lv_lload_n hx hb dX12_common_10 rfl (lv_at hl 1 rfl) ?_
      refine lv_lload_n hx hb dX12_common_11 rfl (lv_at hl 0 rfl) ?_
      refine lv_lload_n hx hb dX12_common_12 rfl (lv_at hl 1 rfl) ?_
      refine r_lrem hx hb dX12_common_13 (by omega) (by omega) (fun z3 hz3 hv3 => ?_)
      have f1 := lrem_f hp0 hp1 (by omega) hz3 hv3
      have f2 : z3.natAbs < b.natAbs := by rw [f1]; exact Nat.mod_lt _ (by omega)
      have f3 : z3.natAbs + b.natAbs ≤ a.natAbs := by rw [f1]; exact mod_room (by omega) (by omega)
      refine g_cSl (wr := []) hx hb hml hC hA hw hl.1 (ih _ b z3 hp1 hz3 f2 (by omega)) kX12_common ml_X12_115 [] [] rfl rfl (by decide) (by decide) (by decide) rfl rfl (Nat.le_of_ble_eq_true rfl) ⟨Nat.le_refl _, (by show 8 + (4 + 11) + 64 * (d + 1) ≤ 64 * (d + 1 + 1); omega)⟩ ⟨Nat.le_refl _, Nat.le_refl _⟩ rfl rfl dX12_common_14 (fun z4 w4 H locs hz4 hE4 hw => ?_)
      obtain ⟨hq4, rfl⟩ := hE4
      have hw : wS D A s.heap [] H locs := hw
      exact r_lret (z := z4) hx hb hr hlk hw [] [] rfl (by decide) (by omega) ⟨hq4, rfl⟩ dX12_common_17
    · refine lv_lload_n hx hb dX12_common_6 rfl (lv_at hl 0 rfl) ?_
      refine lv_goto (tgt := 17) hx hb dX12_common_7 (by decide) ?_
      exact r_lret (z := a) hx hb hr hlk hw [] [] rfl (by decide) (by omega) ⟨(by omega), rfl⟩ dX12_common_17
theorem TF_90 : 5000000000000 < TF 90 := by decide +kernel
abbrev W_m_common (τ : Nat → ClassId) (o : Int) (o2 : Int) : va_W := []
abbrev E_m_common (τ : Nat → ClassId) (o : Int) (o2 : Int) : Int → va_W → Prop := fun z w => (z ≠ 0) ∧ w = []
set_option maxHeartbeats 4000000 in
set_option maxRecDepth 100000 in
theorem m_common (l : Launch) (D : va_G) (τ : Nat → ClassId) (sz : Nat) (o : Int) (o2 : Int) (hp0 : 1 ≤ o2 ∧ o2 ≤ 1000000000000) (hp1 : lR o) : Met l yX12_common (lw_w yX12_common cX12_common 4 (some .long)) (rmk 130 0 0) (gPc D τ (W_m_common τ o o2) sz [.long (lI o), .long (lI o2)]) (gQl D (E_m_common τ o o2) (va_A (W_m_common τ o o2) sz)) 0 0 (va_A (W_m_common τ o o2) sz) := by
  refine g_met (ret := (some .long)) (Qc := gQl D (E_m_common τ o o2)) (by decide +kernel) (Nat.le_of_ble_eq_true rfl) ?_
  intro p e s m args below meth c A ls hx hb hml hr hlk hnm hC hA hw hl
  have hC : cx D τ s m args RX12 := hC
  have hl : lv_has ls 4 [(0, .long (lI o)), (2, .long (lI o2))] := hl
  have hw : wS D A s.heap [] s.heap [] := hw
  refine lv_lload_n hx hb dX12_common_0 rfl (lv_at hl 1 rfl) ?_
  refine r_lconst (z := 0) hx hb dX12_common_1 (by decide +kernel) ?_
  refine r_lcmp hx hb (by omega) (by decide) dX12_common_2 (fun z1 hz1 hv1 => ?_)
  refine r_if_ne (tgt := 10) hx hb dX12_common_3 (by decide) (by omega) (fun hbr2 => ?_) (fun hbr2 => (by exfalso; omega))
  refine lv_lload_n hx hb dX12_common_10 rfl (lv_at hl 1 rfl) ?_
  refine lv_lload_n hx hb dX12_common_11 rfl (lv_at hl 0 rfl) ?_
  refine lv_lload_n hx hb dX12_common_12 rfl (lv_at hl 1 rfl) ?_
  refine r_lrem hx hb dX12_common_13 (by omega) (by omega) (fun z3 hz3 hv3 => ?_)
  have f0 := TF_90
  have f1 := lrem_f hp1 ⟨by omega, by omega⟩ (by omega) hz3 hv3
  have f2 : z3.natAbs < o2.natAbs := by rw [f1]; exact Nat.mod_lt _ (by omega)
  refine g_cSl (wr := []) hx hb hml hC hA hw hl.1 (cm_d l D τ 90 _ o2 z3 ⟨by omega, by omega⟩ hz3 f2 (by omega)) kX12_common ml_X12_115 [] [] rfl rfl (by decide) (by decide) (by decide) rfl rfl (Nat.le_of_ble_eq_true rfl) ⟨by decide, by decide⟩ ⟨by decide, by decide⟩ rfl rfl dX12_common_14 (fun z4 w4 H locs hz4 hE4 hw => ?_)
  obtain ⟨hq4, rfl⟩ := hE4
  have hw : wS D A s.heap [] H locs := hw
  exact r_lret (z := z4) hx hb hr hlk hw [] [] rfl (by decide) (by omega) ⟨hq4, rfl⟩ dX12_common_17
