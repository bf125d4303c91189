abbrev W_c_Street_init (τ : Nat → ClassId) (h8 : Nat) : va_W := [(h8, .inr (9, [.null, .int (iI 0), .int (iI 0), .int (iI 0)]))]
abbrev E_c_Street_init (τ : Nat → ClassId) (h8 : Nat) : va_W → Prop := fun w => ∃ (d8 : Nat), (True) ∧ w = [(h8, .inr (9, [.ref d8, .int (iI 4), .int (iI 0), .int (iI 1)])), (d8, .inl (τ 0, 20, .inl (ar (fun _ => 0))))]
set_option maxHeartbeats 4000000 in
set_option maxRecDepth 100000 in
theorem c_Street_init (l : Launch) (D : va_G) (τ : Nat → ClassId) (sz : Nat) (h8 : Nat)  : Met l yX8_init (lw_w yX8_init cX8_init 1 none) (rmk 1 1 20) (gPc D τ (W_c_Street_init τ h8) sz [.ref h8]) (gQv D (E_c_Street_init τ h8) (va_A (W_c_Street_init τ h8) sz)) 1 20 (va_A (W_c_Street_init τ h8) sz) := by
  refine g_met (ret := none) (Qc := gQv D (E_c_Street_init τ h8)) (by decide +kernel) (Nat.le_of_ble_eq_true rfl) ?_
  intro p e s m args below meth c A ls hx hb hml hr hlk hnm hC hA hw hl
  have hC : cx D τ s m args RX8 := hC
  have hl : lv_has ls 1 [(0, .ref h8)] := hl
  have hw : wS D A s.heap [(h8, .inr (9, [.null, .int (iI 0), .int (iI 0), .int (iI 0)]))] s.heap [] := hw
  refine lv_aload_n hx hb dX8_init_0 rfl (lv_at hl 0 rfl) ?_
  refine r_objInit hx hb hml hC hl.1 ml_X8_3 im_init cd_init (by decide) (Nat.le_of_ble_eq_true rfl) (by decide) dX8_init_1 ?_
  refine lv_aload_n hx hb dX8_init_4 rfl (lv_at hl 0 rfl) ?_
  refine r_bipush hx hb dX8_init_5 (by decide +kernel) ?_
  refine r_newi (N := 20) hx hb hC hA hw ac_int (by decide) (by decide) (by decide) (by decide) rfl rfl dX8_init_7 (fun a1 H hw => ?_)
  have hw : wS D A s.heap [(h8, .inr (9, [.null, .int (iI 0), .int (iI 0), .int (iI 0)])), (a1, .inl (τ 0, 20, .inl (ar (fun _ => 0))))] H _ := hw
  refine pf_X8_9 (ws' := [(h8, .inr (9, [.ref a1, .int (iI 0), .int (iI 0), .int (iI 0)])), (a1, .inl (τ 0, 20, .inl (ar (fun _ => 0))))]) hx hb hC hw hnm 0 rfl (Nat.le_of_ble_eq_true rfl) rfl dX8_init_9 (fun H locs hw => ?_)
  refine lv_aload_n hx hb dX8_init_12 rfl (lv_at hl 0 rfl) ?_
  refine r_iconst hx hb dX8_init_13 ?_
  refine pf_X8_15 (ws' := [(h8, .inr (9, [.ref a1, .int (iI 4), .int (iI 0), .int (iI 0)])), (a1, .inl (τ 0, 20, .inl (ar (fun _ => 0))))]) hx hb hC hw 0 rfl (Nat.le_of_ble_eq_true rfl) rfl dX8_init_14 (fun H locs hw => ?_)
  refine lv_aload_n hx hb dX8_init_17 rfl (lv_at hl 0 rfl) ?_
  refine r_iconst hx hb dX8_init_18 ?_
  refine pf_X8_19 (ws' := [(h8, .inr (9, [.ref a1, .int (iI 4), .int (iI 0), .int (iI 0)])), (a1, .inl (τ 0, 20, .inl (ar (fun _ => 0))))]) hx hb hC hw 0 rfl (Nat.le_of_ble_eq_true rfl) rfl dX8_init_19 (fun H locs hw => ?_)
  refine lv_aload_n hx hb dX8_init_22 rfl (lv_at hl 0 rfl) ?_
  refine r_iconst hx hb dX8_init_23 ?_
  refine pf_X8_22 (ws' := [(h8, .inr (9, [.ref a1, .int (iI 4), .int (iI 0), .int (iI 1)])), (a1, .inl (τ 0, 20, .inl (ar (fun _ => 0))))]) hx hb hC hw 0 rfl (Nat.le_of_ble_eq_true rfl) rfl dX8_init_24 (fun H locs hw => ?_)
  exact r_vret hx hb hr hlk hw [(h8, .inr (9, [.ref a1, .int (iI 4), .int (iI 0), .int (iI 1)])), (a1, .inl (τ 0, 20, .inl (ar (fun _ => 0))))] [0, 1] rfl (by decide) ⟨a1, trivial, rfl⟩ dX8_init_27
abbrev W_c_Street_gate (τ : Nat → ClassId) (h8 : Nat) (d8 : Nat) (cel8 : Int) (cor8 : Int) (dig8 : Int) : va_W := [(h8, .inr (9, [.ref d8, .int (iI cel8), .int (iI cor8), .int (iI dig8)]))]
abbrev E_c_Street_gate (τ : Nat → ClassId) (h8 : Nat) (d8 : Nat) (cel8 : Int) (cor8 : Int) (dig8 : Int) : Int → va_W → Prop := fun z w => (z = cel8 - 1) ∧ w = [(h8, .inr (9, [.ref d8, .int (iI cel8), .int (iI cor8), .int (iI dig8)]))]
set_option maxHeartbeats 4000000 in
set_option maxRecDepth 100000 in
theorem c_Street_gate (l : Launch) (D : va_G) (τ : Nat → ClassId) (sz : Nat) (h8 : Nat) (d8 : Nat) (cel8 : Int) (cor8 : Int) (dig8 : Int) (hp0 : 0 ≤ cel8 ∧ cel8 ≤ 80) : Met l yX8_gate (lw_w yX8_gate cX8_gate 1 (some .int)) (rmk 1 0 0) (gPc D τ (W_c_Street_gate τ h8 d8 cel8 cor8 dig8) sz [.ref h8]) (gQi D (E_c_Street_gate τ h8 d8 cel8 cor8 dig8) (va_A (W_c_Street_gate τ h8 d8 cel8 cor8 dig8) sz)) 0 0 (va_A (W_c_Street_gate τ h8 d8 cel8 cor8 dig8) sz) := by
  refine g_met (ret := (some .int)) (Qc := gQi D (E_c_Street_gate τ h8 d8 cel8 cor8 dig8)) (by decide +kernel) (Nat.le_of_ble_eq_true rfl) ?_
  intro p e s m args below meth c A ls hx hb hml hr hlk hnm hC hA hw hl
  have hC : cx D τ s m args RX8 := hC
  have hl : lv_has ls 1 [(0, .ref h8)] := hl
  have hw : wS D A s.heap [(h8, .inr (9, [.ref d8, .int (iI cel8), .int (iI cor8), .int (iI dig8)]))] s.heap [] := hw
  refine lv_aload_n hx hb dX8_gate_0 rfl (lv_at hl 0 rfl) ?_
  refine gf_X8_15 hx hb hC hw 0 rfl rfl dX8_gate_1 ?_
  refine r_iconst hx hb dX8_gate_4 ?_
  refine r_isub (z := (cel8 - 1)) hx hb dX8_gate_5 (by omega) ?_
  exact r_iret (z := (cel8 - 1)) hx hb hr hlk hw [(h8, .inr (9, [.ref d8, .int (iI cel8), .int (iI cor8), .int (iI dig8)]))] [0] rfl (by decide) (by omega) ⟨(by omega), rfl⟩ dX8_gate_6
abbrev W_c_Scene_init (τ : Nat → ClassId) (h0 : Nat) : va_W := [(h0, .inr (7, [.null, .null, .null, .null, .null, .null, .int (iI 0), .int (iI 0), .int (iI 0), .int (iI 0), .int (iI 0)]))]
abbrev E_c_Scene_init (τ : Nat → ClassId) (h0 : Nat) : va_W → Prop := fun w => ∃ (c0 : Nat), ∃ (k0 : Nat), ∃ (p0 : Nat), ∃ (o0 : Nat), ∃ (f0 : Nat), ∃ (g0 : Nat), (True) ∧ w = [(h0, .inr (7, [.ref c0, .ref k0, .ref p0, .ref o0, .ref f0, .ref g0, .int (iI 0), .int (iI 0), .int (iI 0), .int (iI 0), .int (iI 0)])), (c0, .inl (τ 0, 6, .inl (ar (fun _ => 0)))), (k0, .inl (τ 0, 6, .inl (ar (fun _ => 0)))), (p0, .inl (τ 0, 8, .inl (ar (fun _ => 0)))), (o0, .inl (τ 0, 8, .inl (ar (fun _ => 0)))), (f0, .inl (τ 0, 8, .inl (ar (fun _ => 0)))), (g0, .inl (τ 0, 8, .inl (ar (fun _ => 0))))]
set_option maxHeartbeats 4000000 in
set_option maxRecDepth 100000 in
theorem c_Scene_init (l : Launch) (D : va_G) (τ : Nat → ClassId) (sz : Nat) (h0 : Nat)  : Met l yX6_init (lw_w yX6_init cX6_init 1 none) (rmk 1 6 44) (gPc D τ (W_c_Scene_init τ h0) sz [.ref h0]) (gQv D (E_c_Scene_init τ h0) (va_A (W_c_Scene_init τ h0) sz)) 6 44 (va_A (W_c_Scene_init τ h0) sz) := by
  refine g_met (ret := none) (Qc := gQv D (E_c_Scene_init τ h0)) (by decide +kernel) (Nat.le_of_ble_eq_true rfl) ?_
  intro p e s m args below meth c A ls hx hb hml hr hlk hnm hC hA hw hl
  have hC : cx D τ s m args RX6 := hC
  have hl : lv_has ls 1 [(0, .ref h0)] := hl
  have hw : wS D A s.heap [(h0, .inr (7, [.null, .null, .null, .null, .null, .null, .int (iI 0), .int (iI 0), .int (iI 0), .int (iI 0), .int (iI 0)]))] s.heap [] := hw
  refine lv_aload_n hx hb dX6_init_0 rfl (lv_at hl 0 rfl) ?_
  refine r_objInit hx hb hml hC hl.1 ml_X6_3 im_init cd_init (by decide) (Nat.le_of_ble_eq_true rfl) (by decide) dX6_init_1 ?_
  refine lv_aload_n hx hb dX6_init_4 rfl (lv_at hl 0 rfl) ?_
  refine r_bipush hx hb dX6_init_5 (by decide +kernel) ?_
  refine r_newi (N := 6) hx hb hC hA hw ac_int (by decide) (by decide) (by decide) (by decide) rfl rfl dX6_init_7 (fun a1 H hw => ?_)
  have hw : wS D A s.heap [(h0, .inr (7, [.null, .null, .null, .null, .null, .null, .int (iI 0), .int (iI 0), .int (iI 0), .int (iI 0), .int (iI 0)])), (a1, .inl (τ 0, 6, .inl (ar (fun _ => 0))))] H _ := hw
  refine pf_X6_9 (ws' := [(h0, .inr (7, [.ref a1, .null, .null, .null, .null, .null, .int (iI 0), .int (iI 0), .int (iI 0), .int (iI 0), .int (iI 0)])), (a1, .inl (τ 0, 6, .inl (ar (fun _ => 0))))]) hx hb hC hw hnm 0 rfl (Nat.le_of_ble_eq_true rfl) rfl dX6_init_9 (fun H locs hw => ?_)
  refine lv_aload_n hx hb dX6_init_12 rfl (lv_at hl 0 rfl) ?_
  refine r_bipush hx hb dX6_init_13 (by decide +kernel) ?_
  refine r_newi (N := 6) hx hb hC hA hw ac_int (by decide) (by decide) (by decide) (by decide) rfl rfl dX6_init_15 (fun a2 H hw => ?_)
  have hw : wS D A s.heap [(h0, .inr (7, [.ref a1, .null, .null, .null, .null, .null, .int (iI 0), .int (iI 0), .int (iI 0), .int (iI 0), .int (iI 0)])), (a1, .inl (τ 0, 6, .inl (ar (fun _ => 0)))), (a2, .inl (τ 0, 6, .inl (ar (fun _ => 0))))] H _ := hw
  refine pf_X6_15 (ws' := [(h0, .inr (7, [.ref a1, .ref a2, .null, .null, .null, .null, .int (iI 0), .int (iI 0), .int (iI 0), .int (iI 0), .int (iI 0)])), (a1, .inl (τ 0, 6, .inl (ar (fun _ => 0)))), (a2, .inl (τ 0, 6, .inl (ar (fun _ => 0))))]) hx hb hC hw hnm 0 rfl (Nat.le_of_ble_eq_true rfl) rfl dX6_init_17 (fun H locs hw => ?_)
  refine lv_aload_n hx hb dX6_init_20 rfl (lv_at hl 0 rfl) ?_
  refine r_bipush hx hb dX6_init_21 (by decide +kernel) ?_
  refine r_newi (N := 8) hx hb hC hA hw ac_int (by decide) (by decide) (by decide) (by decide) rfl rfl dX6_init_23 (fun a3 H hw => ?_)
  have hw : wS D A s.heap [(h0, .inr (7, [.ref a1, .ref a2, .null, .null, .null, .null, .int (iI 0), .int (iI 0), .int (iI 0), .int (iI 0), .int (iI 0)])), (a1, .inl (τ 0, 6, .inl (ar (fun _ => 0)))), (a2, .inl (τ 0, 6, .inl (ar (fun _ => 0)))), (a3, .inl (τ 0, 8, .inl (ar (fun _ => 0))))] H _ := hw
  refine pf_X6_18 (ws' := [(h0, .inr (7, [.ref a1, .ref a2, .ref a3, .null, .null, .null, .int (iI 0), .int (iI 0), .int (iI 0), .int (iI 0), .int (iI 0)])), (a1, .inl (τ 0, 6, .inl (ar (fun _ => 0)))), (a2, .inl (τ 0, 6, .inl (ar (fun _ => 0)))), (a3, .inl (τ 0, 8, .inl (ar (fun _ => 0))))]) hx hb hC hw hnm 0 rfl (Nat.le_of_ble_eq_true rfl) rfl dX6_init_25 (fun H locs hw => ?_)
  refine lv_aload_n hx hb dX6_init_28 rfl (lv_at hl 0 rfl) ?_
  refine r_bipush hx hb dX6_init_29 (by decide +kernel) ?_
  refine r_newi (N := 8) hx hb hC hA hw ac_int (by decide) (by decide) (by decide) (by decide) rfl rfl dX6_init_31 (fun a4 H hw => ?_)
  have hw : wS D A s.heap [(h0, .inr (7, [.ref a1, .ref a2, .ref a3, .null, .null, .null, .int (iI 0), .int (iI 0), .int (iI 0), .int (iI 0), .int (iI 0)])), (a1, .inl (τ 0, 6, .inl (ar (fun _ => 0)))), (a2, .inl (τ 0, 6, .inl (ar (fun _ => 0)))), (a3, .inl (τ 0, 8, .inl (ar (fun _ => 0)))), (a4, .inl (τ 0, 8, .inl (ar (fun _ => 0))))] H _ := hw
  refine pf_X6_21 (ws' := [(h0, .inr (7, [.ref a1, .ref a2, .ref a3, .ref a4, .null, .null, .int (iI 0), .int (iI 0), .int (iI 0), .int (iI 0), .int (iI 0)])), (a1, .inl (τ 0, 6, .inl (ar (fun _ => 0)))), (a2, .inl (τ 0, 6, .inl (ar (fun _ => 0)))), (a3, .inl (τ 0, 8, .inl (ar (fun _ => 0)))), (a4, .inl (τ 0, 8, .inl (ar (fun _ => 0))))]) hx hb hC hw hnm 0 rfl (Nat.le_of_ble_eq_true rfl) rfl dX6_init_33 (fun H locs hw => ?_)
  refine lv_aload_n hx hb dX6_init_36 rfl (lv_at hl 0 rfl) ?_
  refine r_bipush hx hb dX6_init_37 (by decide +kernel) ?_
  refine r_newi (N := 8) hx hb hC hA hw ac_int (by decide) (by decide) (by decide) (by decide) rfl rfl dX6_init_39 (fun a5 H hw => ?_)
  have hw : wS D A s.heap [(h0, .inr (7, [.ref a1, .ref a2, .ref a3, .ref a4, .null, .null, .int (iI 0), .int (iI 0), .int (iI 0), .int (iI 0), .int (iI 0)])), (a1, .inl (τ 0, 6, .inl (ar (fun _ => 0)))), (a2, .inl (τ 0, 6, .inl (ar (fun _ => 0)))), (a3, .inl (τ 0, 8, .inl (ar (fun _ => 0)))), (a4, .inl (τ 0, 8, .inl (ar (fun _ => 0)))), (a5, .inl (τ 0, 8, .inl (ar (fun _ => 0))))] H _ := hw
  refine pf_X6_24 (ws' := [(h0, .inr (7, [.ref a1, .ref a2, .ref a3, .ref a4, .ref a5, .null, .int (iI 0), .int (iI 0), .int (iI 0), .int (iI 0), .int (iI 0)])), (a1, .inl (τ 0, 6, .inl (ar (fun _ => 0)))), (a2, .inl (τ 0, 6, .inl (ar (fun _ => 0)))), (a3, .inl (τ 0, 8, .inl (ar (fun _ => 0)))), (a4, .inl (τ 0, 8, .inl (ar (fun _ => 0)))), (a5, .inl (τ 0, 8, .inl (ar (fun _ => 0))))]) hx hb hC hw hnm 0 rfl (Nat.le_of_ble_eq_true rfl) rfl dX6_init_41 (fun H locs hw => ?_)
  refine lv_aload_n hx hb dX6_init_44 rfl (lv_at hl 0 rfl) ?_
  refine r_bipush hx hb dX6_init_45 (by decide +kernel) ?_
  refine r_newi (N := 8) hx hb hC hA hw ac_int (by decide) (by decide) (by decide) (by decide) rfl rfl dX6_init_47 (fun a6 H hw => ?_)
  have hw : wS D A s.heap [(h0, .inr (7, [.ref a1, .ref a2, .ref a3, .ref a4, .ref a5, .null, .int (iI 0), .int (iI 0), .int (iI 0), .int (iI 0), .int (iI 0)])), (a1, .inl (τ 0, 6, .inl (ar (fun _ => 0)))), (a2, .inl (τ 0, 6, .inl (ar (fun _ => 0)))), (a3, .inl (τ 0, 8, .inl (ar (fun _ => 0)))), (a4, .inl (τ 0, 8, .inl (ar (fun _ => 0)))), (a5, .inl (τ 0, 8, .inl (ar (fun _ => 0)))), (a6, .inl (τ 0, 8, .inl (ar (fun _ => 0))))] H _ := hw
  refine pf_X6_27 (ws' := [(h0, .inr (7, [.ref a1, .ref a2, .ref a3, .ref a4, .ref a5, .ref a6, .int (iI 0), .int (iI 0), .int (iI 0), .int (iI 0), .int (iI 0)])), (a1, .inl (τ 0, 6, .inl (ar (fun _ => 0)))), (a2, .inl (τ 0, 6, .inl (ar (fun _ => 0)))), (a3, .inl (τ 0, 8, .inl (ar (fun _ => 0)))), (a4, .inl (τ 0, 8, .inl (ar (fun _ => 0)))), (a5, .inl (τ 0, 8, .inl (ar (fun _ => 0)))), (a6, .inl (τ 0, 8, .inl (ar (fun _ => 0))))]) hx hb hC hw hnm 0 rfl (Nat.le_of_ble_eq_true rfl) rfl dX6_init_49 (fun H locs hw => ?_)
  refine lv_aload_n hx hb dX6_init_52 rfl (lv_at hl 0 rfl) ?_
  refine r_iconst hx hb dX6_init_53 ?_
  refine pf_X6_30 (ws' := [(h0, .inr (7, [.ref a1, .ref a2, .ref a3, .ref a4, .ref a5, .ref a6, .int (iI 0), .int (iI 0), .int (iI 0), .int (iI 0), .int (iI 0)])), (a1, .inl (τ 0, 6, .inl (ar (fun _ => 0)))), (a2, .inl (τ 0, 6, .inl (ar (fun _ => 0)))), (a3, .inl (τ 0, 8, .inl (ar (fun _ => 0)))), (a4, .inl (τ 0, 8, .inl (ar (fun _ => 0)))), (a5, .inl (τ 0, 8, .inl (ar (fun _ => 0)))), (a6, .inl (τ 0, 8, .inl (ar (fun _ => 0))))]) hx hb hC hw 0 rfl (Nat.le_of_ble_eq_true rfl) rfl dX6_init_54 (fun H locs hw => ?_)
  refine lv_aload_n hx hb dX6_init_57 rfl (lv_at hl 0 rfl) ?_
  refine r_iconst hx hb dX6_init_58 ?_
  refine pf_X6_34 (ws' := [(h0, .inr (7, [.ref a1, .ref a2, .ref a3, .ref a4, .ref a5, .ref a6, .int (iI 0), .int (iI 0), .int (iI 0), .int (iI 0), .int (iI 0)])), (a1, .inl (τ 0, 6, .inl (ar (fun _ => 0)))), (a2, .inl (τ 0, 6, .inl (ar (fun _ => 0)))), (a3, .inl (τ 0, 8, .inl (ar (fun _ => 0)))), (a4, .inl (τ 0, 8, .inl (ar (fun _ => 0)))), (a5, .inl (τ 0, 8, .inl (ar (fun _ => 0)))), (a6, .inl (τ 0, 8, .inl (ar (fun _ => 0))))]) hx hb hC hw 0 rfl (Nat.le_of_ble_eq_true rfl) rfl dX6_init_59 (fun H locs hw => ?_)
  refine lv_aload_n hx hb dX6_init_62 rfl (lv_at hl 0 rfl) ?_
  refine r_iconst hx hb dX6_init_63 ?_
  refine pf_X6_37 (ws' := [(h0, .inr (7, [.ref a1, .ref a2, .ref a3, .ref a4, .ref a5, .ref a6, .int (iI 0), .int (iI 0), .int (iI 0), .int (iI 0), .int (iI 0)])), (a1, .inl (τ 0, 6, .inl (ar (fun _ => 0)))), (a2, .inl (τ 0, 6, .inl (ar (fun _ => 0)))), (a3, .inl (τ 0, 8, .inl (ar (fun _ => 0)))), (a4, .inl (τ 0, 8, .inl (ar (fun _ => 0)))), (a5, .inl (τ 0, 8, .inl (ar (fun _ => 0)))), (a6, .inl (τ 0, 8, .inl (ar (fun _ => 0))))]) hx hb hC hw 0 rfl (Nat.le_of_ble_eq_true rfl) rfl dX6_init_64 (fun H locs hw => ?_)
  refine lv_aload_n hx hb dX6_init_67 rfl (lv_at hl 0 rfl) ?_
  refine r_iconst hx hb dX6_init_68 ?_
  refine pf_X6_40 (ws' := [(h0, .inr (7, [.ref a1, .ref a2, .ref a3, .ref a4, .ref a5, .ref a6, .int (iI 0), .int (iI 0), .int (iI 0), .int (iI 0), .int (iI 0)])), (a1, .inl (τ 0, 6, .inl (ar (fun _ => 0)))), (a2, .inl (τ 0, 6, .inl (ar (fun _ => 0)))), (a3, .inl (τ 0, 8, .inl (ar (fun _ => 0)))), (a4, .inl (τ 0, 8, .inl (ar (fun _ => 0)))), (a5, .inl (τ 0, 8, .inl (ar (fun _ => 0)))), (a6, .inl (τ 0, 8, .inl (ar (fun _ => 0))))]) hx hb hC hw 0 rfl (Nat.le_of_ble_eq_true rfl) rfl dX6_init_69 (fun H locs hw => ?_)
  refine lv_aload_n hx hb dX6_init_72 rfl (lv_at hl 0 rfl) ?_
  refine r_iconst hx hb dX6_init_73 ?_
  refine pf_X6_43 (ws' := [(h0, .inr (7, [.ref a1, .ref a2, .ref a3, .ref a4, .ref a5, .ref a6, .int (iI 0), .int (iI 0), .int (iI 0), .int (iI 0), .int (iI 0)])), (a1, .inl (τ 0, 6, .inl (ar (fun _ => 0)))), (a2, .inl (τ 0, 6, .inl (ar (fun _ => 0)))), (a3, .inl (τ 0, 8, .inl (ar (fun _ => 0)))), (a4, .inl (τ 0, 8, .inl (ar (fun _ => 0)))), (a5, .inl (τ 0, 8, .inl (ar (fun _ => 0)))), (a6, .inl (τ 0, 8, .inl (ar (fun _ => 0))))]) hx hb hC hw 0 rfl (Nat.le_of_ble_eq_true rfl) rfl dX6_init_74 (fun H locs hw => ?_)
  exact r_vret hx hb hr hlk hw [(h0, .inr (7, [.ref a1, .ref a2, .ref a3, .ref a4, .ref a5, .ref a6, .int (iI 0), .int (iI 0), .int (iI 0), .int (iI 0), .int (iI 0)])), (a1, .inl (τ 0, 6, .inl (ar (fun _ => 0)))), (a2, .inl (τ 0, 6, .inl (ar (fun _ => 0)))), (a3, .inl (τ 0, 8, .inl (ar (fun _ => 0)))), (a4, .inl (τ 0, 8, .inl (ar (fun _ => 0)))), (a5, .inl (τ 0, 8, .inl (ar (fun _ => 0)))), (a6, .inl (τ 0, 8, .inl (ar (fun _ => 0))))] [0, 1, 2, 3, 4, 5, 6] rfl (by decide) ⟨a1, a2, a3, a4, a5, a6, trivial, rfl⟩ dX6_init_77
abbrev W_c_Scene_copyFrom (τ : Nat → ClassId) (h0 : Nat) (c0 : Nat) (k0 : Nat) (p0 : Nat) (o0 : Nat) (f0 : Nat) (g0 : Nat) (hc0 : Int) (mc0 : Int) (ac0 : Int) (ec0 : Int) (stp0 : Int) (ce0 : Int → Int) (ra0 : Int → Int) (pl0 : Int → Int) (ow0 : Int → Int) (fo0 : Int → Int) (gr0 : Int → Int) (h1 : Nat) (c1 : Nat) (k1 : Nat) (p1 : Nat) (o1 : Nat) (f1 : Nat) (g1 : Nat) (hc1 : Int) (mc1 : Int) (ac1 : Int) (ec1 : Int) (stp1 : Int) (ce1 : Int → Int) (ra1 : Int → Int) (pl1 : Int → Int) (ow1 : Int → Int) (fo1 : Int → Int) (gr1 : Int → Int) : va_W := [(h0, .inr (7, [.ref c0, .ref k0, .ref p0, .ref o0, .ref f0, .ref g0, .int (iI hc0), .int (iI mc0), .int (iI ac0), .int (iI ec0), .int (iI stp0)])), (c0, .inl (τ 0, 6, .inl (ar ce0))), (k0, .inl (τ 0, 6, .inl (ar ra0))), (p0, .inl (τ 0, 8, .inl (ar pl0))), (o0, .inl (τ 0, 8, .inl (ar ow0))), (f0, .inl (τ 0, 8, .inl (ar fo0))), (g0, .inl (τ 0, 8, .inl (ar gr0))), (h1, .inr (7, [.ref c1, .ref k1, .ref p1, .ref o1, .ref f1, .ref g1, .int (iI hc1), .int (iI mc1), .int (iI ac1), .int (iI ec1), .int (iI stp1)])), (c1, .inl (τ 0, 6, .inl (ar ce1))), (k1, .inl (τ 0, 6, .inl (ar ra1))), (p1, .inl (τ 0, 8, .inl (ar pl1))), (o1, .inl (τ 0, 8, .inl (ar ow1))), (f1, .inl (τ 0, 8, .inl (ar fo1))), (g1, .inl (τ 0, 8, .inl (ar gr1)))]
abbrev E_c_Scene_copyFrom (τ : Nat → ClassId) (h0 : Nat) (c0 : Nat) (k0 : Nat) (p0 : Nat) (o0 : Nat) (f0 : Nat) (g0 : Nat) (hc0 : Int) (mc0 : Int) (ac0 : Int) (ec0 : Int) (stp0 : Int) (ce0 : Int → Int) (ra0 : Int → Int) (pl0 : Int → Int) (ow0 : Int → Int) (fo0 : Int → Int) (gr0 : Int → Int) (h1 : Nat) (c1 : Nat) (k1 : Nat) (p1 : Nat) (o1 : Nat) (f1 : Nat) (g1 : Nat) (hc1 : Int) (mc1 : Int) (ac1 : Int) (ec1 : Int) (stp1 : Int) (ce1 : Int → Int) (ra1 : Int → Int) (pl1 : Int → Int) (ow1 : Int → Int) (fo1 : Int → Int) (gr1 : Int → Int) : va_W → Prop := fun w => (True) ∧ w = [(h0, .inr (7, [.ref c0, .ref k0, .ref p0, .ref o0, .ref f0, .ref g0, .int (iI hc1), .int (iI mc1), .int (iI ac1), .int (iI ec1), .int (iI stp1)])), (c0, .inl (τ 0, 6, .inl (ar (cpy ce1 ce0 6)))), (k0, .inl (τ 0, 6, .inl (ar (cpy ra1 ra0 6)))), (p0, .inl (τ 0, 8, .inl (ar (cpy pl1 pl0 8)))), (o0, .inl (τ 0, 8, .inl (ar (cpy ow1 ow0 8)))), (f0, .inl (τ 0, 8, .inl (ar (cpy fo1 fo0 8)))), (g0, .inl (τ 0, 8, .inl (ar (cpy gr1 gr0 8)))), (h1, .inr (7, [.ref c1, .ref k1, .ref p1, .ref o1, .ref f1, .ref g1, .int (iI hc1), .int (iI mc1), .int (iI ac1), .int (iI ec1), .int (iI stp1)])), (c1, .inl (τ 0, 6, .inl (ar ce1))), (k1, .inl (τ 0, 6, .inl (ar ra1))), (p1, .inl (τ 0, 8, .inl (ar pl1))), (o1, .inl (τ 0, 8, .inl (ar ow1))), (f1, .inl (τ 0, 8, .inl (ar fo1))), (g1, .inl (τ 0, 8, .inl (ar gr1)))]
set_option maxHeartbeats 4000000 in
set_option maxRecDepth 100000 in
theorem c_Scene_copyFrom (l : Launch) (D : va_G) (τ : Nat → ClassId) (sz : Nat) (h0 : Nat) (c0 : Nat) (k0 : Nat) (p0 : Nat) (o0 : Nat) (f0 : Nat) (g0 : Nat) (hc0 : Int) (mc0 : Int) (ac0 : Int) (ec0 : Int) (stp0 : Int) (ce0 : Int → Int) (ra0 : Int → Int) (pl0 : Int → Int) (ow0 : Int → Int) (fo0 : Int → Int) (gr0 : Int → Int) (h1 : Nat) (c1 : Nat) (k1 : Nat) (p1 : Nat) (o1 : Nat) (f1 : Nat) (g1 : Nat) (hc1 : Int) (mc1 : Int) (ac1 : Int) (ec1 : Int) (stp1 : Int) (ce1 : Int → Int) (ra1 : Int → Int) (pl1 : Int → Int) (ow1 : Int → Int) (fo1 : Int → Int) (gr1 : Int → Int)  : Met l yX6_copyFrom (lw_w yX6_copyFrom cX6_copyFrom 2 none) (rmk 1 0 0) (gPc D τ (W_c_Scene_copyFrom τ h0 c0 k0 p0 o0 f0 g0 hc0 mc0 ac0 ec0 stp0 ce0 ra0 pl0 ow0 fo0 gr0 h1 c1 k1 p1 o1 f1 g1 hc1 mc1 ac1 ec1 stp1 ce1 ra1 pl1 ow1 fo1 gr1) sz [.ref h0, .ref h1]) (gQv D (E_c_Scene_copyFrom τ h0 c0 k0 p0 o0 f0 g0 hc0 mc0 ac0 ec0 stp0 ce0 ra0 pl0 ow0 fo0 gr0 h1 c1 k1 p1 o1 f1 g1 hc1 mc1 ac1 ec1 stp1 ce1 ra1 pl1 ow1 fo1 gr1) (va_A (W_c_Scene_copyFrom τ h0 c0 k0 p0 o0 f0 g0 hc0 mc0 ac0 ec0 stp0 ce0 ra0 pl0 ow0 fo0 gr0 h1 c1 k1 p1 o1 f1 g1 hc1 mc1 ac1 ec1 stp1 ce1 ra1 pl1 ow1 fo1 gr1) sz)) 0 0 (va_A (W_c_Scene_copyFrom τ h0 c0 k0 p0 o0 f0 g0 hc0 mc0 ac0 ec0 stp0 ce0 ra0 pl0 ow0 fo0 gr0 h1 c1 k1 p1 o1 f1 g1 hc1 mc1 ac1 ec1 stp1 ce1 ra1 pl1 ow1 fo1 gr1) sz) := by
  refine g_met (ret := none) (Qc := gQv D (E_c_Scene_copyFrom τ h0 c0 k0 p0 o0 f0 g0 hc0 mc0 ac0 ec0 stp0 ce0 ra0 pl0 ow0 fo0 gr0 h1 c1 k1 p1 o1 f1 g1 hc1 mc1 ac1 ec1 stp1 ce1 ra1 pl1 ow1 fo1 gr1)) (by decide +kernel) (Nat.le_of_ble_eq_true rfl) ?_
  intro p e s m args below meth c A ls hx hb hml hr hlk hnm hC hA hw hl
  have hC : cx D τ s m args RX6 := hC
  have hl : lv_has ls 2 [(0, .ref h0), (1, .ref h1)] := hl
  have hw : wS D A s.heap [(h0, .inr (7, [.ref c0, .ref k0, .ref p0, .ref o0, .ref f0, .ref g0, .int (iI hc0), .int (iI mc0), .int (iI ac0), .int (iI ec0), .int (iI stp0)])), (c0, .inl (τ 0, 6, .inl (ar ce0))), (k0, .inl (τ 0, 6, .inl (ar ra0))), (p0, .inl (τ 0, 8, .inl (ar pl0))), (o0, .inl (τ 0, 8, .inl (ar ow0))), (f0, .inl (τ 0, 8, .inl (ar fo0))), (g0, .inl (τ 0, 8, .inl (ar gr0))), (h1, .inr (7, [.ref c1, .ref k1, .ref p1, .ref o1, .ref f1, .ref g1, .int (iI hc1), .int (iI mc1), .int (iI ac1), .int (iI ec1), .int (iI stp1)])), (c1, .inl (τ 0, 6, .inl (ar ce1))), (k1, .inl (τ 0, 6, .inl (ar ra1))), (p1, .inl (τ 0, 8, .inl (ar pl1))), (o1, .inl (τ 0, 8, .inl (ar ow1))), (f1, .inl (τ 0, 8, .inl (ar fo1))), (g1, .inl (τ 0, 8, .inl (ar gr1)))] s.heap [] := hw
  refine lv_aload_n hx hb dX6_copyFrom_0 rfl (lv_at hl 1 rfl) ?_
  refine gf_X6_9 hx hb hC hw 7 rfl rfl dX6_copyFrom_1 ?_
  refine r_iconst hx hb dX6_copyFrom_4 ?_
  refine lv_aload_n hx hb dX6_copyFrom_5 rfl (lv_at hl 0 rfl) ?_
  refine gf_X6_9 hx hb hC hw 0 rfl rfl dX6_copyFrom_6 ?_
  refine r_iconst hx hb dX6_copyFrom_9 ?_
  refine r_bipush hx hb dX6_copyFrom_10 (by decide +kernel) ?_
  refine r_copy (ws' := [(h0, .inr (7, [.ref c0, .ref k0, .ref p0, .ref o0, .ref f0, .ref g0, .int (iI hc0), .int (iI mc0), .int (iI ac0), .int (iI ec0), .int (iI stp0)])), (c0, .inl (τ 0, 6, .inl (ar (cpy ce1 ce0 6)))), (k0, .inl (τ 0, 6, .inl (ar ra0))), (p0, .inl (τ 0, 8, .inl (ar pl0))), (o0, .inl (τ 0, 8, .inl (ar ow0))), (f0, .inl (τ 0, 8, .inl (ar fo0))), (g0, .inl (τ 0, 8, .inl (ar gr0))), (h1, .inr (7, [.ref c1, .ref k1, .ref p1, .ref o1, .ref f1, .ref g1, .int (iI hc1), .int (iI mc1), .int (iI ac1), .int (iI ec1), .int (iI stp1)])), (c1, .inl (τ 0, 6, .inl (ar ce1))), (k1, .inl (τ 0, 6, .inl (ar ra1))), (p1, .inl (τ 0, 8, .inl (ar pl1))), (o1, .inl (τ 0, 8, .inl (ar ow1))), (f1, .inl (τ 0, 8, .inl (ar fo1))), (g1, .inl (τ 0, 8, .inl (ar gr1)))]) hx hb hml hC hl.1 ml_X6_46 nm_arraycopy sm_arraycopy in_J10 hw 8 1 rfl rfl (by decide) (by decide) (by decide) (by decide) rfl (by decide) (Nat.le_of_ble_eq_true rfl) (by decide) dX6_copyFrom_12 (fun H locs hw => ?_)
  refine lv_aload_n hx hb dX6_copyFrom_15 rfl (lv_at hl 1 rfl) ?_
  refine gf_X6_15 hx hb hC hw 7 rfl rfl dX6_copyFrom_16 ?_
  refine r_iconst hx hb dX6_copyFrom_19 ?_
  refine lv_aload_n hx hb dX6_copyFrom_20 rfl (lv_at hl 0 rfl) ?_
  refine gf_X6_15 hx hb hC hw 0 rfl rfl dX6_copyFrom_21 ?_
  refine r_iconst hx hb dX6_copyFrom_24 ?_
  refine r_bipush hx hb dX6_copyFrom_25 (by decide +kernel) ?_
  refine r_copy (ws' := [(h0, .inr (7, [.ref c0, .ref k0, .ref p0, .ref o0, .ref f0, .ref g0, .int (iI hc0), .int (iI mc0), .int (iI ac0), .int (iI ec0), .int (iI stp0)])), (c0, .inl (τ 0, 6, .inl (ar (cpy ce1 ce0 6)))), (k0, .inl (τ 0, 6, .inl (ar (cpy ra1 ra0 6)))), (p0, .inl (τ 0, 8, .inl (ar pl0))), (o0, .inl (τ 0, 8, .inl (ar ow0))), (f0, .inl (τ 0, 8, .inl (ar fo0))), (g0, .inl (τ 0, 8, .inl (ar gr0))), (h1, .inr (7, [.ref c1, .ref k1, .ref p1, .ref o1, .ref f1, .ref g1, .int (iI hc1), .int (iI mc1), .int (iI ac1), .int (iI ec1), .int (iI stp1)])), (c1, .inl (τ 0, 6, .inl (ar ce1))), (k1, .inl (τ 0, 6, .inl (ar ra1))), (p1, .inl (τ 0, 8, .inl (ar pl1))), (o1, .inl (τ 0, 8, .inl (ar ow1))), (f1, .inl (τ 0, 8, .inl (ar fo1))), (g1, .inl (τ 0, 8, .inl (ar gr1)))]) hx hb hml hC hl.1 ml_X6_46 nm_arraycopy sm_arraycopy in_J10 hw 9 2 rfl rfl (by decide) (by decide) (by decide) (by decide) rfl (by decide) (Nat.le_of_ble_eq_true rfl) (by decide) dX6_copyFrom_27 (fun H locs hw => ?_)
  refine lv_aload_n hx hb dX6_copyFrom_30 rfl (lv_at hl 1 rfl) ?_
  refine gf_X6_18 hx hb hC hw 7 rfl rfl dX6_copyFrom_31 ?_
  refine r_iconst hx hb dX6_copyFrom_34 ?_
  refine lv_aload_n hx hb dX6_copyFrom_35 rfl (lv_at hl 0 rfl) ?_
  refine gf_X6_18 hx hb hC hw 0 rfl rfl dX6_copyFrom_36 ?_
  refine r_iconst hx hb dX6_copyFrom_39 ?_
  refine r_bipush hx hb dX6_copyFrom_40 (by decide +kernel) ?_
  refine r_copy (ws' := [(h0, .inr (7, [.ref c0, .ref k0, .ref p0, .ref o0, .ref f0, .ref g0, .int (iI hc0), .int (iI mc0), .int (iI ac0), .int (iI ec0), .int (iI stp0)])), (c0, .inl (τ 0, 6, .inl (ar (cpy ce1 ce0 6)))), (k0, .inl (τ 0, 6, .inl (ar (cpy ra1 ra0 6)))), (p0, .inl (τ 0, 8, .inl (ar (cpy pl1 pl0 8)))), (o0, .inl (τ 0, 8, .inl (ar ow0))), (f0, .inl (τ 0, 8, .inl (ar fo0))), (g0, .inl (τ 0, 8, .inl (ar gr0))), (h1, .inr (7, [.ref c1, .ref k1, .ref p1, .ref o1, .ref f1, .ref g1, .int (iI hc1), .int (iI mc1), .int (iI ac1), .int (iI ec1), .int (iI stp1)])), (c1, .inl (τ 0, 6, .inl (ar ce1))), (k1, .inl (τ 0, 6, .inl (ar ra1))), (p1, .inl (τ 0, 8, .inl (ar pl1))), (o1, .inl (τ 0, 8, .inl (ar ow1))), (f1, .inl (τ 0, 8, .inl (ar fo1))), (g1, .inl (τ 0, 8, .inl (ar gr1)))]) hx hb hml hC hl.1 ml_X6_46 nm_arraycopy sm_arraycopy in_J10 hw 10 3 rfl rfl (by decide) (by decide) (by decide) (by decide) rfl (by decide) (Nat.le_of_ble_eq_true rfl) (by decide) dX6_copyFrom_42 (fun H locs hw => ?_)
  refine lv_aload_n hx hb dX6_copyFrom_45 rfl (lv_at hl 1 rfl) ?_
  refine gf_X6_21 hx hb hC hw 7 rfl rfl dX6_copyFrom_46 ?_
  refine r_iconst hx hb dX6_copyFrom_49 ?_
  refine lv_aload_n hx hb dX6_copyFrom_50 rfl (lv_at hl 0 rfl) ?_
  refine gf_X6_21 hx hb hC hw 0 rfl rfl dX6_copyFrom_51 ?_
  refine r_iconst hx hb dX6_copyFrom_54 ?_
  refine r_bipush hx hb dX6_copyFrom_55 (by decide +kernel) ?_
  refine r_copy (ws' := [(h0, .inr (7, [.ref c0, .ref k0, .ref p0, .ref o0, .ref f0, .ref g0, .int (iI hc0), .int (iI mc0), .int (iI ac0), .int (iI ec0), .int (iI stp0)])), (c0, .inl (τ 0, 6, .inl (ar (cpy ce1 ce0 6)))), (k0, .inl (τ 0, 6, .inl (ar (cpy ra1 ra0 6)))), (p0, .inl (τ 0, 8, .inl (ar (cpy pl1 pl0 8)))), (o0, .inl (τ 0, 8, .inl (ar (cpy ow1 ow0 8)))), (f0, .inl (τ 0, 8, .inl (ar fo0))), (g0, .inl (τ 0, 8, .inl (ar gr0))), (h1, .inr (7, [.ref c1, .ref k1, .ref p1, .ref o1, .ref f1, .ref g1, .int (iI hc1), .int (iI mc1), .int (iI ac1), .int (iI ec1), .int (iI stp1)])), (c1, .inl (τ 0, 6, .inl (ar ce1))), (k1, .inl (τ 0, 6, .inl (ar ra1))), (p1, .inl (τ 0, 8, .inl (ar pl1))), (o1, .inl (τ 0, 8, .inl (ar ow1))), (f1, .inl (τ 0, 8, .inl (ar fo1))), (g1, .inl (τ 0, 8, .inl (ar gr1)))]) hx hb hml hC hl.1 ml_X6_46 nm_arraycopy sm_arraycopy in_J10 hw 11 4 rfl rfl (by decide) (by decide) (by decide) (by decide) rfl (by decide) (Nat.le_of_ble_eq_true rfl) (by decide) dX6_copyFrom_57 (fun H locs hw => ?_)
  refine lv_aload_n hx hb dX6_copyFrom_60 rfl (lv_at hl 1 rfl) ?_
  refine gf_X6_24 hx hb hC hw 7 rfl rfl dX6_copyFrom_61 ?_
  refine r_iconst hx hb dX6_copyFrom_64 ?_
  refine lv_aload_n hx hb dX6_copyFrom_65 rfl (lv_at hl 0 rfl) ?_
  refine gf_X6_24 hx hb hC hw 0 rfl rfl dX6_copyFrom_66 ?_
  refine r_iconst hx hb dX6_copyFrom_69 ?_
  refine r_bipush hx hb dX6_copyFrom_70 (by decide +kernel) ?_
  refine r_copy (ws' := [(h0, .inr (7, [.ref c0, .ref k0, .ref p0, .ref o0, .ref f0, .ref g0, .int (iI hc0), .int (iI mc0), .int (iI ac0), .int (iI ec0), .int (iI stp0)])), (c0, .inl (τ 0, 6, .inl (ar (cpy ce1 ce0 6)))), (k0, .inl (τ 0, 6, .inl (ar (cpy ra1 ra0 6)))), (p0, .inl (τ 0, 8, .inl (ar (cpy pl1 pl0 8)))), (o0, .inl (τ 0, 8, .inl (ar (cpy ow1 ow0 8)))), (f0, .inl (τ 0, 8, .inl (ar (cpy fo1 fo0 8)))), (g0, .inl (τ 0, 8, .inl (ar gr0))), (h1, .inr (7, [.ref c1, .ref k1, .ref p1, .ref o1, .ref f1, .ref g1, .int (iI hc1), .int (iI mc1), .int (iI ac1), .int (iI ec1), .int (iI stp1)])), (c1, .inl (τ 0, 6, .inl (ar ce1))), (k1, .inl (τ 0, 6, .inl (ar ra1))), (p1, .inl (τ 0, 8, .inl (ar pl1))), (o1, .inl (τ 0, 8, .inl (ar ow1))), (f1, .inl (τ 0, 8, .inl (ar fo1))), (g1, .inl (τ 0, 8, .inl (ar gr1)))]) hx hb hml hC hl.1 ml_X6_46 nm_arraycopy sm_arraycopy in_J10 hw 12 5 rfl rfl (by decide) (by decide) (by decide) (by decide) rfl (by decide) (Nat.le_of_ble_eq_true rfl) (by decide) dX6_copyFrom_72 (fun H locs hw => ?_)
  refine lv_aload_n hx hb dX6_copyFrom_75 rfl (lv_at hl 1 rfl) ?_
  refine gf_X6_27 hx hb hC hw 7 rfl rfl dX6_copyFrom_76 ?_
  refine r_iconst hx hb dX6_copyFrom_79 ?_
  refine lv_aload_n hx hb dX6_copyFrom_80 rfl (lv_at hl 0 rfl) ?_
  refine gf_X6_27 hx hb hC hw 0 rfl rfl dX6_copyFrom_81 ?_
  refine r_iconst hx hb dX6_copyFrom_84 ?_
  refine r_bipush hx hb dX6_copyFrom_85 (by decide +kernel) ?_
  refine r_copy (ws' := [(h0, .inr (7, [.ref c0, .ref k0, .ref p0, .ref o0, .ref f0, .ref g0, .int (iI hc0), .int (iI mc0), .int (iI ac0), .int (iI ec0), .int (iI stp0)])), (c0, .inl (τ 0, 6, .inl (ar (cpy ce1 ce0 6)))), (k0, .inl (τ 0, 6, .inl (ar (cpy ra1 ra0 6)))), (p0, .inl (τ 0, 8, .inl (ar (cpy pl1 pl0 8)))), (o0, .inl (τ 0, 8, .inl (ar (cpy ow1 ow0 8)))), (f0, .inl (τ 0, 8, .inl (ar (cpy fo1 fo0 8)))), (g0, .inl (τ 0, 8, .inl (ar (cpy gr1 gr0 8)))), (h1, .inr (7, [.ref c1, .ref k1, .ref p1, .ref o1, .ref f1, .ref g1, .int (iI hc1), .int (iI mc1), .int (iI ac1), .int (iI ec1), .int (iI stp1)])), (c1, .inl (τ 0, 6, .inl (ar ce1))), (k1, .inl (τ 0, 6, .inl (ar ra1))), (p1, .inl (τ 0, 8, .inl (ar pl1))), (o1, .inl (τ 0, 8, .inl (ar ow1))), (f1, .inl (τ 0, 8, .inl (ar fo1))), (g1, .inl (τ 0, 8, .inl (ar gr1)))]) hx hb hml hC hl.1 ml_X6_46 nm_arraycopy sm_arraycopy in_J10 hw 13 6 rfl rfl (by decide) (by decide) (by decide) (by decide) rfl (by decide) (Nat.le_of_ble_eq_true rfl) (by decide) dX6_copyFrom_87 (fun H locs hw => ?_)
  refine lv_aload_n hx hb dX6_copyFrom_90 rfl (lv_at hl 0 rfl) ?_
  refine lv_aload_n hx hb dX6_copyFrom_91 rfl (lv_at hl 1 rfl) ?_
  refine gf_X6_30 hx hb hC hw 7 rfl rfl dX6_copyFrom_92 ?_
  refine pf_X6_30 (ws' := [(h0, .inr (7, [.ref c0, .ref k0, .ref p0, .ref o0, .ref f0, .ref g0, .int (iI hc1), .int (iI mc0), .int (iI ac0), .int (iI ec0), .int (iI stp0)])), (c0, .inl (τ 0, 6, .inl (ar (cpy ce1 ce0 6)))), (k0, .inl (τ 0, 6, .inl (ar (cpy ra1 ra0 6)))), (p0, .inl (τ 0, 8, .inl (ar (cpy pl1 pl0 8)))), (o0, .inl (τ 0, 8, .inl (ar (cpy ow1 ow0 8)))), (f0, .inl (τ 0, 8, .inl (ar (cpy fo1 fo0 8)))), (g0, .inl (τ 0, 8, .inl (ar (cpy gr1 gr0 8)))), (h1, .inr (7, [.ref c1, .ref k1, .ref p1, .ref o1, .ref f1, .ref g1, .int (iI hc1), .int (iI mc1), .int (iI ac1), .int (iI ec1), .int (iI stp1)])), (c1, .inl (τ 0, 6, .inl (ar ce1))), (k1, .inl (τ 0, 6, .inl (ar ra1))), (p1, .inl (τ 0, 8, .inl (ar pl1))), (o1, .inl (τ 0, 8, .inl (ar ow1))), (f1, .inl (τ 0, 8, .inl (ar fo1))), (g1, .inl (τ 0, 8, .inl (ar gr1)))]) hx hb hC hw 0 rfl (Nat.le_of_ble_eq_true rfl) rfl dX6_copyFrom_95 (fun H locs hw => ?_)
  refine lv_aload_n hx hb dX6_copyFrom_98 rfl (lv_at hl 0 rfl) ?_
  refine lv_aload_n hx hb dX6_copyFrom_99 rfl (lv_at hl 1 rfl) ?_
  refine gf_X6_34 hx hb hC hw 7 rfl rfl dX6_copyFrom_100 ?_
  refine pf_X6_34 (ws' := [(h0, .inr (7, [.ref c0, .ref k0, .ref p0, .ref o0, .ref f0, .ref g0, .int (iI hc1), .int (iI mc1), .int (iI ac0), .int (iI ec0), .int (iI stp0)])), (c0, .inl (τ 0, 6, .inl (ar (cpy ce1 ce0 6)))), (k0, .inl (τ 0, 6, .inl (ar (cpy ra1 ra0 6)))), (p0, .inl (τ 0, 8, .inl (ar (cpy pl1 pl0 8)))), (o0, .inl (τ 0, 8, .inl (ar (cpy ow1 ow0 8)))), (f0, .inl (τ 0, 8, .inl (ar (cpy fo1 fo0 8)))), (g0, .inl (τ 0, 8, .inl (ar (cpy gr1 gr0 8)))), (h1, .inr (7, [.ref c1, .ref k1, .ref p1, .ref o1, .ref f1, .ref g1, .int (iI hc1), .int (iI mc1), .int (iI ac1), .int (iI ec1), .int (iI stp1)])), (c1, .inl (τ 0, 6, .inl (ar ce1))), (k1, .inl (τ 0, 6, .inl (ar ra1))), (p1, .inl (τ 0, 8, .inl (ar pl1))), (o1, .inl (τ 0, 8, .inl (ar ow1))), (f1, .inl (τ 0, 8, .inl (ar fo1))), (g1, .inl (τ 0, 8, .inl (ar gr1)))]) hx hb hC hw 0 rfl (Nat.le_of_ble_eq_true rfl) rfl dX6_copyFrom_103 (fun H locs hw => ?_)
  refine lv_aload_n hx hb dX6_copyFrom_106 rfl (lv_at hl 0 rfl) ?_
  refine lv_aload_n hx hb dX6_copyFrom_107 rfl (lv_at hl 1 rfl) ?_
  refine gf_X6_37 hx hb hC hw 7 rfl rfl dX6_copyFrom_108 ?_
  refine pf_X6_37 (ws' := [(h0, .inr (7, [.ref c0, .ref k0, .ref p0, .ref o0, .ref f0, .ref g0, .int (iI hc1), .int (iI mc1), .int (iI ac1), .int (iI ec0), .int (iI stp0)])), (c0, .inl (τ 0, 6, .inl (ar (cpy ce1 ce0 6)))), (k0, .inl (τ 0, 6, .inl (ar (cpy ra1 ra0 6)))), (p0, .inl (τ 0, 8, .inl (ar (cpy pl1 pl0 8)))), (o0, .inl (τ 0, 8, .inl (ar (cpy ow1 ow0 8)))), (f0, .inl (τ 0, 8, .inl (ar (cpy fo1 fo0 8)))), (g0, .inl (τ 0, 8, .inl (ar (cpy gr1 gr0 8)))), (h1, .inr (7, [.ref c1, .ref k1, .ref p1, .ref o1, .ref f1, .ref g1, .int (iI hc1), .int (iI mc1), .int (iI ac1), .int (iI ec1), .int (iI stp1)])), (c1, .inl (τ 0, 6, .inl (ar ce1))), (k1, .inl (τ 0, 6, .inl (ar ra1))), (p1, .inl (τ 0, 8, .inl (ar pl1))), (o1, .inl (τ 0, 8, .inl (ar ow1))), (f1, .inl (τ 0, 8, .inl (ar fo1))), (g1, .inl (τ 0, 8, .inl (ar gr1)))]) hx hb hC hw 0 rfl (Nat.le_of_ble_eq_true rfl) rfl dX6_copyFrom_111 (fun H locs hw => ?_)
  refine lv_aload_n hx hb dX6_copyFrom_114 rfl (lv_at hl 0 rfl) ?_
  refine lv_aload_n hx hb dX6_copyFrom_115 rfl (lv_at hl 1 rfl) ?_
  refine gf_X6_40 hx hb hC hw 7 rfl rfl dX6_copyFrom_116 ?_
  refine pf_X6_40 (ws' := [(h0, .inr (7, [.ref c0, .ref k0, .ref p0, .ref o0, .ref f0, .ref g0, .int (iI hc1), .int (iI mc1), .int (iI ac1), .int (iI ec1), .int (iI stp0)])), (c0, .inl (τ 0, 6, .inl (ar (cpy ce1 ce0 6)))), (k0, .inl (τ 0, 6, .inl (ar (cpy ra1 ra0 6)))), (p0, .inl (τ 0, 8, .inl (ar (cpy pl1 pl0 8)))), (o0, .inl (τ 0, 8, .inl (ar (cpy ow1 ow0 8)))), (f0, .inl (τ 0, 8, .inl (ar (cpy fo1 fo0 8)))), (g0, .inl (τ 0, 8, .inl (ar (cpy gr1 gr0 8)))), (h1, .inr (7, [.ref c1, .ref k1, .ref p1, .ref o1, .ref f1, .ref g1, .int (iI hc1), .int (iI mc1), .int (iI ac1), .int (iI ec1), .int (iI stp1)])), (c1, .inl (τ 0, 6, .inl (ar ce1))), (k1, .inl (τ 0, 6, .inl (ar ra1))), (p1, .inl (τ 0, 8, .inl (ar pl1))), (o1, .inl (τ 0, 8, .inl (ar ow1))), (f1, .inl (τ 0, 8, .inl (ar fo1))), (g1, .inl (τ 0, 8, .inl (ar gr1)))]) hx hb hC hw 0 rfl (Nat.le_of_ble_eq_true rfl) rfl dX6_copyFrom_119 (fun H locs hw => ?_)
  refine lv_aload_n hx hb dX6_copyFrom_122 rfl (lv_at hl 0 rfl) ?_
  refine lv_aload_n hx hb dX6_copyFrom_123 rfl (lv_at hl 1 rfl) ?_
  refine gf_X6_43 hx hb hC hw 7 rfl rfl dX6_copyFrom_124 ?_
  refine pf_X6_43 (ws' := [(h0, .inr (7, [.ref c0, .ref k0, .ref p0, .ref o0, .ref f0, .ref g0, .int (iI hc1), .int (iI mc1), .int (iI ac1), .int (iI ec1), .int (iI stp1)])), (c0, .inl (τ 0, 6, .inl (ar (cpy ce1 ce0 6)))), (k0, .inl (τ 0, 6, .inl (ar (cpy ra1 ra0 6)))), (p0, .inl (τ 0, 8, .inl (ar (cpy pl1 pl0 8)))), (o0, .inl (τ 0, 8, .inl (ar (cpy ow1 ow0 8)))), (f0, .inl (τ 0, 8, .inl (ar (cpy fo1 fo0 8)))), (g0, .inl (τ 0, 8, .inl (ar (cpy gr1 gr0 8)))), (h1, .inr (7, [.ref c1, .ref k1, .ref p1, .ref o1, .ref f1, .ref g1, .int (iI hc1), .int (iI mc1), .int (iI ac1), .int (iI ec1), .int (iI stp1)])), (c1, .inl (τ 0, 6, .inl (ar ce1))), (k1, .inl (τ 0, 6, .inl (ar ra1))), (p1, .inl (τ 0, 8, .inl (ar pl1))), (o1, .inl (τ 0, 8, .inl (ar ow1))), (f1, .inl (τ 0, 8, .inl (ar fo1))), (g1, .inl (τ 0, 8, .inl (ar gr1)))]) hx hb hC hw 0 rfl (Nat.le_of_ble_eq_true rfl) rfl dX6_copyFrom_127 (fun H locs hw => ?_)
  exact r_vret hx hb hr hlk hw [(h0, .inr (7, [.ref c0, .ref k0, .ref p0, .ref o0, .ref f0, .ref g0, .int (iI hc1), .int (iI mc1), .int (iI ac1), .int (iI ec1), .int (iI stp1)])), (c0, .inl (τ 0, 6, .inl (ar (cpy ce1 ce0 6)))), (k0, .inl (τ 0, 6, .inl (ar (cpy ra1 ra0 6)))), (p0, .inl (τ 0, 8, .inl (ar (cpy pl1 pl0 8)))), (o0, .inl (τ 0, 8, .inl (ar (cpy ow1 ow0 8)))), (f0, .inl (τ 0, 8, .inl (ar (cpy fo1 fo0 8)))), (g0, .inl (τ 0, 8, .inl (ar (cpy gr1 gr0 8)))), (h1, .inr (7, [.ref c1, .ref k1, .ref p1, .ref o1, .ref f1, .ref g1, .int (iI hc1), .int (iI mc1), .int (iI ac1), .int (iI ec1), .int (iI stp1)])), (c1, .inl (τ 0, 6, .inl (ar ce1))), (k1, .inl (τ 0, 6, .inl (ar ra1))), (p1, .inl (τ 0, 8, .inl (ar pl1))), (o1, .inl (τ 0, 8, .inl (ar ow1))), (f1, .inl (τ 0, 8, .inl (ar fo1))), (g1, .inl (τ 0, 8, .inl (ar gr1)))] [0, 1, 2, 3, 4, 5, 6, 7, 8, 9, 10, 11, 12, 13] rfl (by decide) ⟨trivial, rfl⟩ dX6_copyFrom_130
abbrev W_c_Scene_isHearse (τ : Nat → ClassId) (h0 : Nat) (c0 : Nat) (k0 : Nat) (p0 : Nat) (o0 : Nat) (f0 : Nat) (g0 : Nat) (hc0 : Int) (mc0 : Int) (ac0 : Int) (ec0 : Int) (stp0 : Int) (v : Int) : va_W := [(h0, .inr (7, [.ref c0, .ref k0, .ref p0, .ref o0, .ref f0, .ref g0, .int (iI hc0), .int (iI mc0), .int (iI ac0), .int (iI ec0), .int (iI stp0)]))]
abbrev E_c_Scene_isHearse (τ : Nat → ClassId) (h0 : Nat) (c0 : Nat) (k0 : Nat) (p0 : Nat) (o0 : Nat) (f0 : Nat) (g0 : Nat) (hc0 : Int) (mc0 : Int) (ac0 : Int) (ec0 : Int) (stp0 : Int) (v : Int) : Int → va_W → Prop := fun z w => ((z = 1 ∧ 0 ≤ v ∧ v < hc0) ∨ (z = 0 ∧ (v < 0 ∨ hc0 ≤ v))) ∧ w = [(h0, .inr (7, [.ref c0, .ref k0, .ref p0, .ref o0, .ref f0, .ref g0, .int (iI hc0), .int (iI mc0), .int (iI ac0), .int (iI ec0), .int (iI stp0)]))]
set_option maxHeartbeats 4000000 in
set_option maxRecDepth 100000 in
theorem c_Scene_isHearse (l : Launch) (D : va_G) (τ : Nat → ClassId) (sz : Nat) (h0 : Nat) (c0 : Nat) (k0 : Nat) (p0 : Nat) (o0 : Nat) (f0 : Nat) (g0 : Nat) (hc0 : Int) (mc0 : Int) (ac0 : Int) (ec0 : Int) (stp0 : Int) (v : Int) (hp0 : iR v) (hp1 : 0 ≤ hc0 ∧ hc0 ≤ 6) : Met l yX6_isHearse (lw_w yX6_isHearse cX6_isHearse 2 (some .boolean)) (rmk 1 0 0) (gPc D τ (W_c_Scene_isHearse τ h0 c0 k0 p0 o0 f0 g0 hc0 mc0 ac0 ec0 stp0 v) sz [.ref h0, .int (iI v)]) (gQi D (E_c_Scene_isHearse τ h0 c0 k0 p0 o0 f0 g0 hc0 mc0 ac0 ec0 stp0 v) (va_A (W_c_Scene_isHearse τ h0 c0 k0 p0 o0 f0 g0 hc0 mc0 ac0 ec0 stp0 v) sz)) 0 0 (va_A (W_c_Scene_isHearse τ h0 c0 k0 p0 o0 f0 g0 hc0 mc0 ac0 ec0 stp0 v) sz) := by
  refine g_met (ret := (some .boolean)) (Qc := gQi D (E_c_Scene_isHearse τ h0 c0 k0 p0 o0 f0 g0 hc0 mc0 ac0 ec0 stp0 v)) (by decide +kernel) (Nat.le_of_ble_eq_true rfl) ?_
  intro p e s m args below meth c A ls hx hb hml hr hlk hnm hC hA hw hl
  have hC : cx D τ s m args RX6 := hC
  have hl : lv_has ls 2 [(0, .ref h0), (1, .int (iI v))] := hl
  have hw : wS D A s.heap [(h0, .inr (7, [.ref c0, .ref k0, .ref p0, .ref o0, .ref f0, .ref g0, .int (iI hc0), .int (iI mc0), .int (iI ac0), .int (iI ec0), .int (iI stp0)]))] s.heap [] := hw
  refine lv_iload_n hx hb dX6_isHearse_0 rfl (lv_at hl 1 rfl) ?_
  refine r_if_lt (tgt := 16) hx hb dX6_isHearse_1 (by decide) (by omega) (fun hbr1 => ?_) (fun hbr1 => ?_)
  · skip
    refine r_iconst hx hb dX6_isHearse_16 ?_
    exact r_zret (z := 0) hx hb hr hlk hw [(h0, .inr (7, [.ref c0, .ref k0, .ref p0, .ref o0, .ref f0, .ref g0, .int (iI hc0), .int (iI mc0), .int (iI ac0), .int (iI ec0), .int (iI stp0)]))] [0] rfl (by decide) (by decide) (by decide) ⟨(by omega), rfl⟩ dX6_isHearse_17
  · skip
    refine lv_iload_n hx hb dX6_isHearse_4 rfl (lv_at hl 1 rfl) ?_
    refine lv_aload_n hx hb dX6_isHearse_5 rfl (lv_at hl 0 rfl) ?_
    refine gf_X6_30 hx hb hC hw 0 rfl rfl dX6_isHearse_6 ?_
    refine r_icmp_ge (tgt := 16) hx hb dX6_isHearse_9 (by decide) (by omega) (by omega) (fun hbr2 => ?_) (fun hbr2 => ?_)
    · skip
      refine r_iconst hx hb dX6_isHearse_16 ?_
      exact r_zret (z := 0) hx hb hr hlk hw [(h0, .inr (7, [.ref c0, .ref k0, .ref p0, .ref o0, .ref f0, .ref g0, .int (iI hc0), .int (iI mc0), .int (iI ac0), .int (iI ec0), .int (iI stp0)]))] [0] rfl (by decide) (by decide) (by decide) ⟨(by omega), rfl⟩ dX6_isHearse_17
    · skip
      refine r_iconst hx hb dX6_isHearse_12 ?_
      refine lv_goto (tgt := 17) hx hb dX6_isHearse_13 (by decide) ?_
      exact r_zret (z := 1) hx hb hr hlk hw [(h0, .inr (7, [.ref c0, .ref k0, .ref p0, .ref o0, .ref f0, .ref g0, .int (iI hc0), .int (iI mc0), .int (iI ac0), .int (iI ec0), .int (iI stp0)]))] [0] rfl (by decide) (by decide) (by decide) ⟨(by omega), rfl⟩ dX6_isHearse_17
abbrev W_c_Scene_isMourner (τ : Nat → ClassId) (h0 : Nat) (c0 : Nat) (k0 : Nat) (p0 : Nat) (o0 : Nat) (f0 : Nat) (g0 : Nat) (hc0 : Int) (mc0 : Int) (ac0 : Int) (ec0 : Int) (stp0 : Int) (v : Int) : va_W := [(h0, .inr (7, [.ref c0, .ref k0, .ref p0, .ref o0, .ref f0, .ref g0, .int (iI hc0), .int (iI mc0), .int (iI ac0), .int (iI ec0), .int (iI stp0)]))]
abbrev E_c_Scene_isMourner (τ : Nat → ClassId) (h0 : Nat) (c0 : Nat) (k0 : Nat) (p0 : Nat) (o0 : Nat) (f0 : Nat) (g0 : Nat) (hc0 : Int) (mc0 : Int) (ac0 : Int) (ec0 : Int) (stp0 : Int) (v : Int) : Int → va_W → Prop := fun z w => ((z = 1 ∧ 0 ≤ v ∧ v < mc0) ∨ (z = 0 ∧ (v < 0 ∨ mc0 ≤ v))) ∧ w = [(h0, .inr (7, [.ref c0, .ref k0, .ref p0, .ref o0, .ref f0, .ref g0, .int (iI hc0), .int (iI mc0), .int (iI ac0), .int (iI ec0), .int (iI stp0)]))]
set_option maxHeartbeats 4000000 in
set_option maxRecDepth 100000 in
theorem c_Scene_isMourner (l : Launch) (D : va_G) (τ : Nat → ClassId) (sz : Nat) (h0 : Nat) (c0 : Nat) (k0 : Nat) (p0 : Nat) (o0 : Nat) (f0 : Nat) (g0 : Nat) (hc0 : Int) (mc0 : Int) (ac0 : Int) (ec0 : Int) (stp0 : Int) (v : Int) (hp0 : iR v) (hp1 : 0 ≤ mc0 ∧ mc0 ≤ 8) : Met l yX6_isMourner (lw_w yX6_isMourner cX6_isMourner 2 (some .boolean)) (rmk 1 0 0) (gPc D τ (W_c_Scene_isMourner τ h0 c0 k0 p0 o0 f0 g0 hc0 mc0 ac0 ec0 stp0 v) sz [.ref h0, .int (iI v)]) (gQi D (E_c_Scene_isMourner τ h0 c0 k0 p0 o0 f0 g0 hc0 mc0 ac0 ec0 stp0 v) (va_A (W_c_Scene_isMourner τ h0 c0 k0 p0 o0 f0 g0 hc0 mc0 ac0 ec0 stp0 v) sz)) 0 0 (va_A (W_c_Scene_isMourner τ h0 c0 k0 p0 o0 f0 g0 hc0 mc0 ac0 ec0 stp0 v) sz) := by
  refine g_met (ret := (some .boolean)) (Qc := gQi D (E_c_Scene_isMourner τ h0 c0 k0 p0 o0 f0 g0 hc0 mc0 ac0 ec0 stp0 v)) (by decide +kernel) (Nat.le_of_ble_eq_true rfl) ?_
  intro p e s m args below meth c A ls hx hb hml hr hlk hnm hC hA hw hl
  have hC : cx D τ s m args RX6 := hC
  have hl : lv_has ls 2 [(0, .ref h0), (1, .int (iI v))] := hl
  have hw : wS D A s.heap [(h0, .inr (7, [.ref c0, .ref k0, .ref p0, .ref o0, .ref f0, .ref g0, .int (iI hc0), .int (iI mc0), .int (iI ac0), .int (iI ec0), .int (iI stp0)]))] s.heap [] := hw
  refine lv_iload_n hx hb dX6_isMourner_0 rfl (lv_at hl 1 rfl) ?_
  refine r_if_lt (tgt := 16) hx hb dX6_isMourner_1 (by decide) (by omega) (fun hbr1 => ?_) (fun hbr1 => ?_)
  · skip
    refine r_iconst hx hb dX6_isMourner_16 ?_
    exact r_zret (z := 0) hx hb hr hlk hw [(h0, .inr (7, [.ref c0, .ref k0, .ref p0, .ref o0, .ref f0, .ref g0, .int (iI hc0), .int (iI mc0), .int (iI ac0), .int (iI ec0), .int (iI stp0)]))] [0] rfl (by decide) (by decide) (by decide) ⟨(by omega), rfl⟩ dX6_isMourner_17
  · skip
    refine lv_iload_n hx hb dX6_isMourner_4 rfl (lv_at hl 1 rfl) ?_
    refine lv_aload_n hx hb dX6_isMourner_5 rfl (lv_at hl 0 rfl) ?_
    refine gf_X6_34 hx hb hC hw 0 rfl rfl dX6_isMourner_6 ?_
    refine r_icmp_ge (tgt := 16) hx hb dX6_isMourner_9 (by decide) (by omega) (by omega) (fun hbr2 => ?_) (fun hbr2 => ?_)
    · skip
      refine r_iconst hx hb dX6_isMourner_16 ?_
      exact r_zret (z := 0) hx hb hr hlk hw [(h0, .inr (7, [.ref c0, .ref k0, .ref p0, .ref o0, .ref f0, .ref g0, .int (iI hc0), .int (iI mc0), .int (iI ac0), .int (iI ec0), .int (iI stp0)]))] [0] rfl (by decide) (by decide) (by decide) ⟨(by omega), rfl⟩ dX6_isMourner_17
    · skip
      refine r_iconst hx hb dX6_isMourner_12 ?_
      refine lv_goto (tgt := 17) hx hb dX6_isMourner_13 (by decide) ?_
      exact r_zret (z := 1) hx hb hr hlk hw [(h0, .inr (7, [.ref c0, .ref k0, .ref p0, .ref o0, .ref f0, .ref g0, .int (iI hc0), .int (iI mc0), .int (iI ac0), .int (iI ec0), .int (iI stp0)]))] [0] rfl (by decide) (by decide) (by decide) ⟨(by omega), rfl⟩ dX6_isMourner_17
abbrev W_c_Scene_foremost0 (τ : Nat → ClassId) (h0 : Nat) (c0 : Nat) (k0 : Nat) (p0 : Nat) (o0 : Nat) (f0 : Nat) (g0 : Nat) (ac0 : Int) (ec0 : Int) (stp0 : Int) (v : Int) : va_W := [(h0, .inr (7, [.ref c0, .ref k0, .ref p0, .ref o0, .ref f0, .ref g0, .int (iI 0), .int (iI 0), .int (iI ac0), .int (iI ec0), .int (iI stp0)]))]
abbrev E_c_Scene_foremost0 (τ : Nat → ClassId) (h0 : Nat) (c0 : Nat) (k0 : Nat) (p0 : Nat) (o0 : Nat) (f0 : Nat) (g0 : Nat) (ac0 : Int) (ec0 : Int) (stp0 : Int) (v : Int) : Int → va_W → Prop := fun z w => (z = -1) ∧ w = [(h0, .inr (7, [.ref c0, .ref k0, .ref p0, .ref o0, .ref f0, .ref g0, .int (iI 0), .int (iI 0), .int (iI ac0), .int (iI ec0), .int (iI stp0)]))]
set_option maxHeartbeats 4000000 in
set_option maxRecDepth 100000 in
theorem c_Scene_foremost0 (l : Launch) (D : va_G) (τ : Nat → ClassId) (sz : Nat) (h0 : Nat) (c0 : Nat) (k0 : Nat) (p0 : Nat) (o0 : Nat) (f0 : Nat) (g0 : Nat) (ac0 : Int) (ec0 : Int) (stp0 : Int) (v : Int)  : Met l yX6_foremostBelow (lw_w yX6_foremostBelow cX6_foremostBelow 5 (some .int)) (rmk 1 0 0) (gPc D τ (W_c_Scene_foremost0 τ h0 c0 k0 p0 o0 f0 g0 ac0 ec0 stp0 v) sz [.ref h0, .int (iI v)]) (gQi D (E_c_Scene_foremost0 τ h0 c0 k0 p0 o0 f0 g0 ac0 ec0 stp0 v) (va_A (W_c_Scene_foremost0 τ h0 c0 k0 p0 o0 f0 g0 ac0 ec0 stp0 v) sz)) 0 0 (va_A (W_c_Scene_foremost0 τ h0 c0 k0 p0 o0 f0 g0 ac0 ec0 stp0 v) sz) := by
  refine g_met (ret := (some .int)) (Qc := gQi D (E_c_Scene_foremost0 τ h0 c0 k0 p0 o0 f0 g0 ac0 ec0 stp0 v)) (by decide +kernel) (Nat.le_of_ble_eq_true rfl) ?_
  intro p e s m args below meth c A ls hx hb hml hr hlk hnm hC hA hw hl
  have hC : cx D τ s m args RX6 := hC
  have hl : lv_has ls 5 [(0, .ref h0), (1, .int (iI v))] := hl
  have hw : wS D A s.heap [(h0, .inr (7, [.ref c0, .ref k0, .ref p0, .ref o0, .ref f0, .ref g0, .int (iI 0), .int (iI 0), .int (iI ac0), .int (iI ec0), .int (iI stp0)]))] s.heap [] := hw
  refine r_iconst hx hb dX6_foremostBelow_0 ?_
  refine lv_istore_n (lv' := [(2, .int (iI (-1))), (0, .ref h0), (1, .int (iI v))]) hx hb dX6_foremostBelow_1 rfl hl (by decide) rfl (fun ls hl => ?_)
  refine r_iconst hx hb dX6_foremostBelow_2 ?_
  refine lv_istore_n (lv' := [(3, .int (iI (-1))), (2, .int (iI (-1))), (0, .ref h0), (1, .int (iI v))]) hx hb dX6_foremostBelow_3 rfl hl (by decide) rfl (fun ls hl => ?_)
  refine r_iconst hx hb dX6_foremostBelow_4 ?_
  refine lv_istore (lv' := [(4, .int (iI 0)), (3, .int (iI (-1))), (2, .int (iI (-1))), (0, .ref h0), (1, .int (iI v))]) hx hb dX6_foremostBelow_5 hl (by decide) rfl (fun ls hl => ?_)
  refine lv_iload hx hb dX6_foremostBelow_7 (lv_at hl 0 rfl) ?_
  refine lv_aload_n hx hb dX6_foremostBelow_9 rfl (lv_at hl 3 rfl) ?_
  refine gf_X6_30 hx hb hC hw 0 rfl rfl dX6_foremostBelow_10 ?_
  refine r_icmp_ge (tgt := 55) hx hb dX6_foremostBelow_13 (by decide) (by decide) (by decide) (fun hbr1 => ?_) (fun hbr1 => (by exfalso; omega))
  refine lv_iload_n hx hb dX6_foremostBelow_55 rfl (lv_at hl 2 rfl) ?_
  exact r_iret (z := (-1)) hx hb hr hlk hw [(h0, .inr (7, [.ref c0, .ref k0, .ref p0, .ref o0, .ref f0, .ref g0, .int (iI 0), .int (iI 0), .int (iI ac0), .int (iI ec0), .int (iI stp0)]))] [0] rfl (by decide) (by decide) ⟨(by omega), rfl⟩ dX6_foremostBelow_56
abbrev W_c_Scene_hearseOn0 (τ : Nat → ClassId) (h0 : Nat) (c0 : Nat) (k0 : Nat) (p0 : Nat) (o0 : Nat) (f0 : Nat) (g0 : Nat) (ac0 : Int) (ec0 : Int) (stp0 : Int) (v : Int) : va_W := [(h0, .inr (7, [.ref c0, .ref k0, .ref p0, .ref o0, .ref f0, .ref g0, .int (iI 0), .int (iI 0), .int (iI ac0), .int (iI ec0), .int (iI stp0)]))]
abbrev E_c_Scene_hearseOn0 (τ : Nat → ClassId) (h0 : Nat) (c0 : Nat) (k0 : Nat) (p0 : Nat) (o0 : Nat) (f0 : Nat) (g0 : Nat) (ac0 : Int) (ec0 : Int) (stp0 : Int) (v : Int) : Int → va_W → Prop := fun z w => (z = -1) ∧ w = [(h0, .inr (7, [.ref c0, .ref k0, .ref p0, .ref o0, .ref f0, .ref g0, .int (iI 0), .int (iI 0), .int (iI ac0), .int (iI ec0), .int (iI stp0)]))]
set_option maxHeartbeats 4000000 in
set_option maxRecDepth 100000 in
theorem c_Scene_hearseOn0 (l : Launch) (D : va_G) (τ : Nat → ClassId) (sz : Nat) (h0 : Nat) (c0 : Nat) (k0 : Nat) (p0 : Nat) (o0 : Nat) (f0 : Nat) (g0 : Nat) (ac0 : Int) (ec0 : Int) (stp0 : Int) (v : Int)  : Met l yX6_hearseOn (lw_w yX6_hearseOn cX6_hearseOn 3 (some .int)) (rmk 1 0 0) (gPc D τ (W_c_Scene_hearseOn0 τ h0 c0 k0 p0 o0 f0 g0 ac0 ec0 stp0 v) sz [.ref h0, .int (iI v)]) (gQi D (E_c_Scene_hearseOn0 τ h0 c0 k0 p0 o0 f0 g0 ac0 ec0 stp0 v) (va_A (W_c_Scene_hearseOn0 τ h0 c0 k0 p0 o0 f0 g0 ac0 ec0 stp0 v) sz)) 0 0 (va_A (W_c_Scene_hearseOn0 τ h0 c0 k0 p0 o0 f0 g0 ac0 ec0 stp0 v) sz) := by
  refine g_met (ret := (some .int)) (Qc := gQi D (E_c_Scene_hearseOn0 τ h0 c0 k0 p0 o0 f0 g0 ac0 ec0 stp0 v)) (by decide +kernel) (Nat.le_of_ble_eq_true rfl) ?_
  intro p e s m args below meth c A ls hx hb hml hr hlk hnm hC hA hw hl
  have hC : cx D τ s m args RX6 := hC
  have hl : lv_has ls 3 [(0, .ref h0), (1, .int (iI v))] := hl
  have hw : wS D A s.heap [(h0, .inr (7, [.ref c0, .ref k0, .ref p0, .ref o0, .ref f0, .ref g0, .int (iI 0), .int (iI 0), .int (iI ac0), .int (iI ec0), .int (iI stp0)]))] s.heap [] := hw
  refine r_iconst hx hb dX6_hearseOn_0 ?_
  refine lv_istore_n (lv' := [(2, .int (iI 0)), (0, .ref h0), (1, .int (iI v))]) hx hb dX6_hearseOn_1 rfl hl (by decide) rfl (fun ls hl => ?_)
  refine lv_iload_n hx hb dX6_hearseOn_2 rfl (lv_at hl 0 rfl) ?_
  refine lv_aload_n hx hb dX6_hearseOn_3 rfl (lv_at hl 1 rfl) ?_
  refine gf_X6_30 hx hb hC hw 0 rfl rfl dX6_hearseOn_4 ?_
  refine r_icmp_ge (tgt := 28) hx hb dX6_hearseOn_7 (by decide) (by decide) (by decide) (fun hbr1 => ?_) (fun hbr1 => (by exfalso; omega))
  refine r_iconst hx hb dX6_hearseOn_28 ?_
  exact r_iret (z := (-1)) hx hb hr hlk hw [(h0, .inr (7, [.ref c0, .ref k0, .ref p0, .ref o0, .ref f0, .ref g0, .int (iI 0), .int (iI 0), .int (iI ac0), .int (iI ec0), .int (iI stp0)]))] [0] rfl (by decide) (by decide) ⟨(by omega), rfl⟩ dX6_hearseOn_29
abbrev W_c_Scene_rightBits0 (τ : Nat → ClassId) (h0 : Nat) (c0 : Nat) (k0 : Nat) (p0 : Nat) (o0 : Nat) (f0 : Nat) (g0 : Nat) (ac0 : Int) (ec0 : Int) (stp0 : Int) : va_W := [(h0, .inr (7, [.ref c0, .ref k0, .ref p0, .ref o0, .ref f0, .ref g0, .int (iI 0), .int (iI 0), .int (iI ac0), .int (iI ec0), .int (iI stp0)]))]
abbrev E_c_Scene_rightBits0 (τ : Nat → ClassId) (h0 : Nat) (c0 : Nat) (k0 : Nat) (p0 : Nat) (o0 : Nat) (f0 : Nat) (g0 : Nat) (ac0 : Int) (ec0 : Int) (stp0 : Int) : Int → va_W → Prop := fun z w => (z = 0) ∧ w = [(h0, .inr (7, [.ref c0, .ref k0, .ref p0, .ref o0, .ref f0, .ref g0, .int (iI 0), .int (iI 0), .int (iI ac0), .int (iI ec0), .int (iI stp0)]))]
set_option maxHeartbeats 4000000 in
set_option maxRecDepth 100000 in
theorem c_Scene_rightBits0 (l : Launch) (D : va_G) (τ : Nat → ClassId) (sz : Nat) (h0 : Nat) (c0 : Nat) (k0 : Nat) (p0 : Nat) (o0 : Nat) (f0 : Nat) (g0 : Nat) (ac0 : Int) (ec0 : Int) (stp0 : Int)  : Met l yX6_rightBits (lw_w yX6_rightBits cX6_rightBits 3 (some .int)) (rmk 1 0 0) (gPc D τ (W_c_Scene_rightBits0 τ h0 c0 k0 p0 o0 f0 g0 ac0 ec0 stp0) sz [.ref h0]) (gQi D (E_c_Scene_rightBits0 τ h0 c0 k0 p0 o0 f0 g0 ac0 ec0 stp0) (va_A (W_c_Scene_rightBits0 τ h0 c0 k0 p0 o0 f0 g0 ac0 ec0 stp0) sz)) 0 0 (va_A (W_c_Scene_rightBits0 τ h0 c0 k0 p0 o0 f0 g0 ac0 ec0 stp0) sz) := by
  refine g_met (ret := (some .int)) (Qc := gQi D (E_c_Scene_rightBits0 τ h0 c0 k0 p0 o0 f0 g0 ac0 ec0 stp0)) (by decide +kernel) (Nat.le_of_ble_eq_true rfl) ?_
  intro p e s m args below meth c A ls hx hb hml hr hlk hnm hC hA hw hl
  have hC : cx D τ s m args RX6 := hC
  have hl : lv_has ls 3 [(0, .ref h0)] := hl
  have hw : wS D A s.heap [(h0, .inr (7, [.ref c0, .ref k0, .ref p0, .ref o0, .ref f0, .ref g0, .int (iI 0), .int (iI 0), .int (iI ac0), .int (iI ec0), .int (iI stp0)]))] s.heap [] := hw
  refine r_iconst hx hb dX6_rightBits_0 ?_
  refine lv_istore_n (lv' := [(1, .int (iI 0)), (0, .ref h0)]) hx hb dX6_rightBits_1 rfl hl (by decide) rfl (fun ls hl => ?_)
  refine r_iconst hx hb dX6_rightBits_2 ?_
  refine lv_istore_n (lv' := [(2, .int (iI 0)), (1, .int (iI 0)), (0, .ref h0)]) hx hb dX6_rightBits_3 rfl hl (by decide) rfl (fun ls hl => ?_)
  refine lv_iload_n hx hb dX6_rightBits_4 rfl (lv_at hl 0 rfl) ?_
  refine lv_aload_n hx hb dX6_rightBits_5 rfl (lv_at hl 2 rfl) ?_
  refine gf_X6_34 hx hb hC hw 0 rfl rfl dX6_rightBits_6 ?_
  refine r_icmp_ge (tgt := 36) hx hb dX6_rightBits_9 (by decide) (by decide) (by decide) (fun hbr1 => ?_) (fun hbr1 => (by exfalso; omega))
  refine lv_iload_n hx hb dX6_rightBits_36 rfl (lv_at hl 1 rfl) ?_
  exact r_iret (z := 0) hx hb hr hlk hw [(h0, .inr (7, [.ref c0, .ref k0, .ref p0, .ref o0, .ref f0, .ref g0, .int (iI 0), .int (iI 0), .int (iI ac0), .int (iI ec0), .int (iI stp0)]))] [0] rfl (by decide) (by decide) ⟨(by omega), rfl⟩ dX6_rightBits_37
abbrev W_c_Scene_wrongBits0 (τ : Nat → ClassId) (h0 : Nat) (c0 : Nat) (k0 : Nat) (p0 : Nat) (o0 : Nat) (f0 : Nat) (g0 : Nat) (ac0 : Int) (ec0 : Int) (stp0 : Int) : va_W := [(h0, .inr (7, [.ref c0, .ref k0, .ref p0, .ref o0, .ref f0, .ref g0, .int (iI 0), .int (iI 0), .int (iI ac0), .int (iI ec0), .int (iI stp0)]))]
abbrev E_c_Scene_wrongBits0 (τ : Nat → ClassId) (h0 : Nat) (c0 : Nat) (k0 : Nat) (p0 : Nat) (o0 : Nat) (f0 : Nat) (g0 : Nat) (ac0 : Int) (ec0 : Int) (stp0 : Int) : Int → va_W → Prop := fun z w => (z = 0) ∧ w = [(h0, .inr (7, [.ref c0, .ref k0, .ref p0, .ref o0, .ref f0, .ref g0, .int (iI 0), .int (iI 0), .int (iI ac0), .int (iI ec0), .int (iI stp0)]))]
set_option maxHeartbeats 4000000 in
set_option maxRecDepth 100000 in
theorem c_Scene_wrongBits0 (l : Launch) (D : va_G) (τ : Nat → ClassId) (sz : Nat) (h0 : Nat) (c0 : Nat) (k0 : Nat) (p0 : Nat) (o0 : Nat) (f0 : Nat) (g0 : Nat) (ac0 : Int) (ec0 : Int) (stp0 : Int)  : Met l yX6_wrongBits (lw_w yX6_wrongBits cX6_wrongBits 3 (some .int)) (rmk 1 0 0) (gPc D τ (W_c_Scene_wrongBits0 τ h0 c0 k0 p0 o0 f0 g0 ac0 ec0 stp0) sz [.ref h0]) (gQi D (E_c_Scene_wrongBits0 τ h0 c0 k0 p0 o0 f0 g0 ac0 ec0 stp0) (va_A (W_c_Scene_wrongBits0 τ h0 c0 k0 p0 o0 f0 g0 ac0 ec0 stp0) sz)) 0 0 (va_A (W_c_Scene_wrongBits0 τ h0 c0 k0 p0 o0 f0 g0 ac0 ec0 stp0) sz) := by
  refine g_met (ret := (some .int)) (Qc := gQi D (E_c_Scene_wrongBits0 τ h0 c0 k0 p0 o0 f0 g0 ac0 ec0 stp0)) (by decide +kernel) (Nat.le_of_ble_eq_true rfl) ?_
  intro p e s m args below meth c A ls hx hb hml hr hlk hnm hC hA hw hl
  have hC : cx D τ s m args RX6 := hC
  have hl : lv_has ls 3 [(0, .ref h0)] := hl
  have hw : wS D A s.heap [(h0, .inr (7, [.ref c0, .ref k0, .ref p0, .ref o0, .ref f0, .ref g0, .int (iI 0), .int (iI 0), .int (iI ac0), .int (iI ec0), .int (iI stp0)]))] s.heap [] := hw
  refine r_iconst hx hb dX6_wrongBits_0 ?_
  refine lv_istore_n (lv' := [(1, .int (iI 0)), (0, .ref h0)]) hx hb dX6_wrongBits_1 rfl hl (by decide) rfl (fun ls hl => ?_)
  refine r_iconst hx hb dX6_wrongBits_2 ?_
  refine lv_istore_n (lv' := [(2, .int (iI 0)), (1, .int (iI 0)), (0, .ref h0)]) hx hb dX6_wrongBits_3 rfl hl (by decide) rfl (fun ls hl => ?_)
  refine lv_iload_n hx hb dX6_wrongBits_4 rfl (lv_at hl 0 rfl) ?_
  refine lv_aload_n hx hb dX6_wrongBits_5 rfl (lv_at hl 2 rfl) ?_
  refine gf_X6_34 hx hb hC hw 0 rfl rfl dX6_wrongBits_6 ?_
  refine r_icmp_ge (tgt := 44) hx hb dX6_wrongBits_9 (by decide) (by decide) (by decide) (fun hbr1 => ?_) (fun hbr1 => (by exfalso; omega))
  refine lv_iload_n hx hb dX6_wrongBits_44 rfl (lv_at hl 1 rfl) ?_
  exact r_iret (z := 0) hx hb hr hlk hw [(h0, .inr (7, [.ref c0, .ref k0, .ref p0, .ref o0, .ref f0, .ref g0, .int (iI 0), .int (iI 0), .int (iI ac0), .int (iI ec0), .int (iI stp0)]))] [0] rfl (by decide) (by decide) ⟨(by omega), rfl⟩ dX6_wrongBits_45
abbrev W_c_Scene_placeHearses0 (τ : Nat → ClassId) (h0 : Nat) (c0 : Nat) (k0 : Nat) (p0 : Nat) (o0 : Nat) (f0 : Nat) (g0 : Nat) (ac0 : Int) (ec0 : Int) (stp0 : Int) (b : Nat) : va_W := [(h0, .inr (7, [.ref c0, .ref k0, .ref p0, .ref o0, .ref f0, .ref g0, .int (iI 0), .int (iI 0), .int (iI ac0), .int (iI ec0), .int (iI stp0)]))]
abbrev E_c_Scene_placeHearses0 (τ : Nat → ClassId) (h0 : Nat) (c0 : Nat) (k0 : Nat) (p0 : Nat) (o0 : Nat) (f0 : Nat) (g0 : Nat) (ac0 : Int) (ec0 : Int) (stp0 : Int) (b : Nat) : va_W → Prop := fun w => (True) ∧ w = [(h0, .inr (7, [.ref c0, .ref k0, .ref p0, .ref o0, .ref f0, .ref g0, .int (iI 0), .int (iI 0), .int (iI ac0), .int (iI ec0), .int (iI stp0)]))]
set_option maxHeartbeats 4000000 in
set_option maxRecDepth 100000 in
theorem c_Scene_placeHearses0 (l : Launch) (D : va_G) (τ : Nat → ClassId) (sz : Nat) (h0 : Nat) (c0 : Nat) (k0 : Nat) (p0 : Nat) (o0 : Nat) (f0 : Nat) (g0 : Nat) (ac0 : Int) (ec0 : Int) (stp0 : Int) (b : Nat)  : Met l yX6_placeHearses (lw_w yX6_placeHearses cX6_placeHearses 4 none) (rmk 1 0 0) (gPc D τ (W_c_Scene_placeHearses0 τ h0 c0 k0 p0 o0 f0 g0 ac0 ec0 stp0 b) sz [.ref h0, .ref b]) (gQv D (E_c_Scene_placeHearses0 τ h0 c0 k0 p0 o0 f0 g0 ac0 ec0 stp0 b) (va_A (W_c_Scene_placeHearses0 τ h0 c0 k0 p0 o0 f0 g0 ac0 ec0 stp0 b) sz)) 0 0 (va_A (W_c_Scene_placeHearses0 τ h0 c0 k0 p0 o0 f0 g0 ac0 ec0 stp0 b) sz) := by
  refine g_met (ret := none) (Qc := gQv D (E_c_Scene_placeHearses0 τ h0 c0 k0 p0 o0 f0 g0 ac0 ec0 stp0 b)) (by decide +kernel) (Nat.le_of_ble_eq_true rfl) ?_
  intro p e s m args below meth c A ls hx hb hml hr hlk hnm hC hA hw hl
  have hC : cx D τ s m args RX6 := hC
  have hl : lv_has ls 4 [(0, .ref h0), (1, .ref b)] := hl
  have hw : wS D A s.heap [(h0, .inr (7, [.ref c0, .ref k0, .ref p0, .ref o0, .ref f0, .ref g0, .int (iI 0), .int (iI 0), .int (iI ac0), .int (iI ec0), .int (iI stp0)]))] s.heap [] := hw
  refine r_iconst hx hb dX6_placeHearses_0 ?_
  refine lv_istore_n (lv' := [(2, .int (iI 0)), (0, .ref h0), (1, .ref b)]) hx hb dX6_placeHearses_1 rfl hl (by decide) rfl (fun ls hl => ?_)
  refine r_iconst hx hb dX6_placeHearses_2 ?_
  refine lv_istore_n (lv' := [(3, .int (iI 0)), (2, .int (iI 0)), (0, .ref h0), (1, .ref b)]) hx hb dX6_placeHearses_3 rfl hl (by decide) rfl (fun ls hl => ?_)
  refine lv_iload_n hx hb dX6_placeHearses_4 rfl (lv_at hl 0 rfl) ?_
  refine lv_aload_n hx hb dX6_placeHearses_5 rfl (lv_at hl 2 rfl) ?_
  refine gf_X6_30 hx hb hC hw 0 rfl rfl dX6_placeHearses_6 ?_
  refine r_icmp_ge (tgt := 38) hx hb dX6_placeHearses_9 (by decide) (by decide) (by decide) (fun hbr1 => ?_) (fun hbr1 => (by exfalso; omega))
  exact r_vret hx hb hr hlk hw [(h0, .inr (7, [.ref c0, .ref k0, .ref p0, .ref o0, .ref f0, .ref g0, .int (iI 0), .int (iI 0), .int (iI ac0), .int (iI ec0), .int (iI stp0)]))] [0] rfl (by decide) ⟨trivial, rfl⟩ dX6_placeHearses_38
abbrev W_c_Scene_turn0 (τ : Nat → ClassId) (h0 : Nat) (c0 : Nat) (k0 : Nat) (p0 : Nat) (o0 : Nat) (f0 : Nat) (g0 : Nat) (ac0 : Int) (ec0 : Int) (stp0 : Int) (v : Int) : va_W := [(h0, .inr (7, [.ref c0, .ref k0, .ref p0, .ref o0, .ref f0, .ref g0, .int (iI 0), .int (iI 0), .int (iI ac0), .int (iI ec0), .int (iI stp0)]))]
abbrev E_c_Scene_turn0 (τ : Nat → ClassId) (h0 : Nat) (c0 : Nat) (k0 : Nat) (p0 : Nat) (o0 : Nat) (f0 : Nat) (g0 : Nat) (ac0 : Int) (ec0 : Int) (stp0 : Int) (v : Int) : Int → va_W → Prop := fun z w => (z = -1) ∧ w = [(h0, .inr (7, [.ref c0, .ref k0, .ref p0, .ref o0, .ref f0, .ref g0, .int (iI 0), .int (iI 0), .int (iI ac0), .int (iI ec0), .int (iI stp0)]))]
set_option maxHeartbeats 4000000 in
set_option maxRecDepth 100000 in
theorem c_Scene_turn0 (l : Launch) (D : va_G) (τ : Nat → ClassId) (sz : Nat) (h0 : Nat) (c0 : Nat) (k0 : Nat) (p0 : Nat) (o0 : Nat) (f0 : Nat) (g0 : Nat) (ac0 : Int) (ec0 : Int) (stp0 : Int) (v : Int) (hp0 : iR v) : Met l yX6_turn (lw_w yX6_turn cX6_turn 3 (some .int)) (rmk 2 0 0) (gPc D τ (W_c_Scene_turn0 τ h0 c0 k0 p0 o0 f0 g0 ac0 ec0 stp0 v) sz [.ref h0, .int (iI v)]) (gQi D (E_c_Scene_turn0 τ h0 c0 k0 p0 o0 f0 g0 ac0 ec0 stp0 v) (va_A (W_c_Scene_turn0 τ h0 c0 k0 p0 o0 f0 g0 ac0 ec0 stp0 v) sz)) 0 0 (va_A (W_c_Scene_turn0 τ h0 c0 k0 p0 o0 f0 g0 ac0 ec0 stp0 v) sz) := by
  refine g_met (ret := (some .int)) (Qc := gQi D (E_c_Scene_turn0 τ h0 c0 k0 p0 o0 f0 g0 ac0 ec0 stp0 v)) (by decide +kernel) (Nat.le_of_ble_eq_true rfl) ?_
  intro p e s m args below meth c A ls hx hb hml hr hlk hnm hC hA hw hl
  have hC : cx D τ s m args RX6 := hC
  have hl : lv_has ls 3 [(0, .ref h0), (1, .int (iI v))] := hl
  have hw : wS D A s.heap [(h0, .inr (7, [.ref c0, .ref k0, .ref p0, .ref o0, .ref f0, .ref g0, .int (iI 0), .int (iI 0), .int (iI ac0), .int (iI ec0), .int (iI stp0)]))] s.heap [] := hw
  refine lv_aload_n hx hb dX6_turn_0 rfl (lv_at hl 0 rfl) ?_
  refine lv_iload_n hx hb dX6_turn_1 rfl (lv_at hl 1 rfl) ?_
  refine g_cVi (wr := []) (q0 := 0) (ci := 7) hx hb hml hC hA hw hl.1 (c_Scene_isMourner l D τ _ h0 c0 k0 p0 o0 f0 g0 0 0 ac0 ec0 stp0 v (by omega) (by omega)) kX6_isMourner ml_X6_60 [0] [] rfl rfl (by decide) (by decide) (by decide) rfl rfl rfl rfl (Nat.le_of_ble_eq_true rfl) ⟨by decide, by decide⟩ ⟨by decide, by decide⟩ rfl rfl dX6_turn_2 (fun z1 w1 H locs hz1 hE1 hw => ?_)
  obtain ⟨hq1, rfl⟩ := hE1
  have hw : wS D A s.heap [(h0, .inr (7, [.ref c0, .ref k0, .ref p0, .ref o0, .ref f0, .ref g0, .int (iI 0), .int (iI 0), .int (iI ac0), .int (iI ec0), .int (iI stp0)]))] H locs := hw
  refine r_if_ne (tgt := 10) hx hb dX6_turn_5 (by decide) (by omega) (fun hbr2 => (by exfalso; omega)) (fun hbr2 => ?_)
  refine r_iconst hx hb dX6_turn_8 ?_
  exact r_iret (z := (-1)) hx hb hr hlk hw [(h0, .inr (7, [.ref c0, .ref k0, .ref p0, .ref o0, .ref f0, .ref g0, .int (iI 0), .int (iI 0), .int (iI ac0), .int (iI ec0), .int (iI stp0)]))] [0] rfl (by decide) (by decide) ⟨(by omega), rfl⟩ dX6_turn_9
abbrev W_c_Scene_shove0 (τ : Nat → ClassId) (h0 : Nat) (c0 : Nat) (k0 : Nat) (p0 : Nat) (o0 : Nat) (f0 : Nat) (g0 : Nat) (ac0 : Int) (ec0 : Int) (stp0 : Int) (v : Int) (v2 : Int) (b : Nat) : va_W := [(h0, .inr (7, [.ref c0, .ref k0, .ref p0, .ref o0, .ref f0, .ref g0, .int (iI 0), .int (iI 0), .int (iI ac0), .int (iI ec0), .int (iI stp0)]))]
abbrev E_c_Scene_shove0 (τ : Nat → ClassId) (h0 : Nat) (c0 : Nat) (k0 : Nat) (p0 : Nat) (o0 : Nat) (f0 : Nat) (g0 : Nat) (ac0 : Int) (ec0 : Int) (stp0 : Int) (v : Int) (v2 : Int) (b : Nat) : Int → va_W → Prop := fun z w => (z = -1) ∧ w = [(h0, .inr (7, [.ref c0, .ref k0, .ref p0, .ref o0, .ref f0, .ref g0, .int (iI 0), .int (iI 0), .int (iI ac0), .int (iI ec0), .int (iI stp0)]))]
set_option maxHeartbeats 4000000 in
set_option maxRecDepth 100000 in
theorem c_Scene_shove0 (l : Launch) (D : va_G) (τ : Nat → ClassId) (sz : Nat) (h0 : Nat) (c0 : Nat) (k0 : Nat) (p0 : Nat) (o0 : Nat) (f0 : Nat) (g0 : Nat) (ac0 : Int) (ec0 : Int) (stp0 : Int) (v : Int) (v2 : Int) (b : Nat) (hp0 : iR v) : Met l yX6_shove (lw_w yX6_shove cX6_shove 4 (some .int)) (rmk 2 0 0) (gPc D τ (W_c_Scene_shove0 τ h0 c0 k0 p0 o0 f0 g0 ac0 ec0 stp0 v v2 b) sz [.ref h0, .int (iI v), .int (iI v2), .ref b]) (gQi D (E_c_Scene_shove0 τ h0 c0 k0 p0 o0 f0 g0 ac0 ec0 stp0 v v2 b) (va_A (W_c_Scene_shove0 τ h0 c0 k0 p0 o0 f0 g0 ac0 ec0 stp0 v v2 b) sz)) 0 0 (va_A (W_c_Scene_shove0 τ h0 c0 k0 p0 o0 f0 g0 ac0 ec0 stp0 v v2 b) sz) := by
  refine g_met (ret := (some .int)) (Qc := gQi D (E_c_Scene_shove0 τ h0 c0 k0 p0 o0 f0 g0 ac0 ec0 stp0 v v2 b)) (by decide +kernel) (Nat.le_of_ble_eq_true rfl) ?_
  intro p e s m args below meth c A ls hx hb hml hr hlk hnm hC hA hw hl
  have hC : cx D τ s m args RX6 := hC
  have hl : lv_has ls 4 [(0, .ref h0), (1, .int (iI v)), (2, .int (iI v2)), (3, .ref b)] := hl
  have hw : wS D A s.heap [(h0, .inr (7, [.ref c0, .ref k0, .ref p0, .ref o0, .ref f0, .ref g0, .int (iI 0), .int (iI 0), .int (iI ac0), .int (iI ec0), .int (iI stp0)]))] s.heap [] := hw
  refine lv_aload_n hx hb dX6_shove_0 rfl (lv_at hl 0 rfl) ?_
  refine lv_iload_n hx hb dX6_shove_1 rfl (lv_at hl 1 rfl) ?_
  refine g_cVi (wr := []) (q0 := 0) (ci := 7) hx hb hml hC hA hw hl.1 (c_Scene_isMourner l D τ _ h0 c0 k0 p0 o0 f0 g0 0 0 ac0 ec0 stp0 v (by omega) (by omega)) kX6_isMourner ml_X6_60 [0] [] rfl rfl (by decide) (by decide) (by decide) rfl rfl rfl rfl (Nat.le_of_ble_eq_true rfl) ⟨by decide, by decide⟩ ⟨by decide, by decide⟩ rfl rfl dX6_shove_2 (fun z1 w1 H locs hz1 hE1 hw => ?_)
  obtain ⟨hq1, rfl⟩ := hE1
  have hw : wS D A s.heap [(h0, .inr (7, [.ref c0, .ref k0, .ref p0, .ref o0, .ref f0, .ref g0, .int (iI 0), .int (iI 0), .int (iI ac0), .int (iI ec0), .int (iI stp0)]))] H locs := hw
  refine r_if_eq (tgt := 24) hx hb dX6_shove_5 (by decide) (by omega) (fun hbr2 => ?_) (fun hbr2 => (by exfalso; omega))
  refine r_iconst hx hb dX6_shove_24 ?_
  exact r_iret (z := (-1)) hx hb hr hlk hw [(h0, .inr (7, [.ref c0, .ref k0, .ref p0, .ref o0, .ref f0, .ref g0, .int (iI 0), .int (iI 0), .int (iI ac0), .int (iI ec0), .int (iI stp0)]))] [0] rfl (by decide) (by decide) ⟨(by omega), rfl⟩ dX6_shove_25
abbrev W_c_Scene_exchange0 (τ : Nat → ClassId) (h0 : Nat) (c0 : Nat) (k0 : Nat) (p0 : Nat) (o0 : Nat) (f0 : Nat) (g0 : Nat) (ac0 : Int) (ec0 : Int) (stp0 : Int) (v : Int) (v2 : Int) : va_W := [(h0, .inr (7, [.ref c0, .ref k0, .ref p0, .ref o0, .ref f0, .ref g0, .int (iI 0), .int (iI 0), .int (iI ac0), .int (iI ec0), .int (iI stp0)]))]
abbrev E_c_Scene_exchange0 (τ : Nat → ClassId) (h0 : Nat) (c0 : Nat) (k0 : Nat) (p0 : Nat) (o0 : Nat) (f0 : Nat) (g0 : Nat) (ac0 : Int) (ec0 : Int) (stp0 : Int) (v : Int) (v2 : Int) : Int → va_W → Prop := fun z w => (z = -1) ∧ w = [(h0, .inr (7, [.ref c0, .ref k0, .ref p0, .ref o0, .ref f0, .ref g0, .int (iI 0), .int (iI 0), .int (iI ac0), .int (iI ec0), .int (iI stp0)]))]
set_option maxHeartbeats 4000000 in
set_option maxRecDepth 100000 in
theorem c_Scene_exchange0 (l : Launch) (D : va_G) (τ : Nat → ClassId) (sz : Nat) (h0 : Nat) (c0 : Nat) (k0 : Nat) (p0 : Nat) (o0 : Nat) (f0 : Nat) (g0 : Nat) (ac0 : Int) (ec0 : Int) (stp0 : Int) (v : Int) (v2 : Int) (hp0 : iR v) : Met l yX6_exchange (lw_w yX6_exchange cX6_exchange 4 (some .int)) (rmk 2 0 0) (gPc D τ (W_c_Scene_exchange0 τ h0 c0 k0 p0 o0 f0 g0 ac0 ec0 stp0 v v2) sz [.ref h0, .int (iI v), .int (iI v2)]) (gQi D (E_c_Scene_exchange0 τ h0 c0 k0 p0 o0 f0 g0 ac0 ec0 stp0 v v2) (va_A (W_c_Scene_exchange0 τ h0 c0 k0 p0 o0 f0 g0 ac0 ec0 stp0 v v2) sz)) 0 0 (va_A (W_c_Scene_exchange0 τ h0 c0 k0 p0 o0 f0 g0 ac0 ec0 stp0 v v2) sz) := by
  refine g_met (ret := (some .int)) (Qc := gQi D (E_c_Scene_exchange0 τ h0 c0 k0 p0 o0 f0 g0 ac0 ec0 stp0 v v2)) (by decide +kernel) (Nat.le_of_ble_eq_true rfl) ?_
  intro p e s m args below meth c A ls hx hb hml hr hlk hnm hC hA hw hl
  have hC : cx D τ s m args RX6 := hC
  have hl : lv_has ls 4 [(0, .ref h0), (1, .int (iI v)), (2, .int (iI v2))] := hl
  have hw : wS D A s.heap [(h0, .inr (7, [.ref c0, .ref k0, .ref p0, .ref o0, .ref f0, .ref g0, .int (iI 0), .int (iI 0), .int (iI ac0), .int (iI ec0), .int (iI stp0)]))] s.heap [] := hw
  refine lv_aload_n hx hb dX6_exchange_0 rfl (lv_at hl 0 rfl) ?_
  refine lv_iload_n hx hb dX6_exchange_1 rfl (lv_at hl 1 rfl) ?_
  refine g_cVi (wr := []) (q0 := 0) (ci := 7) hx hb hml hC hA hw hl.1 (c_Scene_isHearse l D τ _ h0 c0 k0 p0 o0 f0 g0 0 0 ac0 ec0 stp0 v (by omega) (by omega)) kX6_isHearse ml_X6_72 [0] [] rfl rfl (by decide) (by decide) (by decide) rfl rfl rfl rfl (Nat.le_of_ble_eq_true rfl) ⟨by decide, by decide⟩ ⟨by decide, by decide⟩ rfl rfl dX6_exchange_2 (fun z1 w1 H locs hz1 hE1 hw => ?_)
  obtain ⟨hq1, rfl⟩ := hE1
  have hw : wS D A s.heap [(h0, .inr (7, [.ref c0, .ref k0, .ref p0, .ref o0, .ref f0, .ref g0, .int (iI 0), .int (iI 0), .int (iI ac0), .int (iI ec0), .int (iI stp0)]))] H locs := hw
  refine r_if_eq (tgt := 21) hx hb dX6_exchange_5 (by decide) (by omega) (fun hbr2 => ?_) (fun hbr2 => (by exfalso; omega))
  refine r_iconst hx hb dX6_exchange_21 ?_
  exact r_iret (z := (-1)) hx hb hr hlk hw [(h0, .inr (7, [.ref c0, .ref k0, .ref p0, .ref o0, .ref f0, .ref g0, .int (iI 0), .int (iI 0), .int (iI ac0), .int (iI ec0), .int (iI stp0)]))] [0] rfl (by decide) (by decide) ⟨(by omega), rfl⟩ dX6_exchange_22
