abbrev W_c_Text_init (τ : Nat → ClassId) (h0 : Nat) : va_W := [(h0, .inr (10, [.null, .int (iI 0), .int (iI 0), .int (iI 0)]))]
abbrev E_c_Text_init (τ : Nat → ClassId) (h0 : Nat) : va_W → Prop := fun w => ∃ (a0 : Nat), (True) ∧ w = [(h0, .inr (10, [.ref a0, .int (iI 0), .int (iI 0), .int (iI 0)])), (a0, .inl (τ 0, 80, .inl (ar (fun _ => 0))))]
set_option maxHeartbeats 4000000 in
set_option maxRecDepth 100000 in
theorem c_Text_init (l : Launch) (D : va_G) (τ : Nat → ClassId) (sz : Nat) (h0 : Nat)  : Met l yX9_init (lw_w yX9_init cX9_init 1 none) (rmk 1 1 80) (gPc D τ (W_c_Text_init τ h0) sz [.ref h0]) (gQv D (E_c_Text_init τ h0) (va_A (W_c_Text_init τ h0) sz)) 1 80 (va_A (W_c_Text_init τ h0) sz) := by
  refine g_met (ret := none) (Qc := gQv D (E_c_Text_init τ h0)) (by decide +kernel) (Nat.le_of_ble_eq_true rfl) ?_
  intro p e s m args below meth c A ls hx hb hml hr hlk hnm hC hA hw hl
  have hC : cx D τ s m args RX9 := hC
  have hl : lv_has ls 1 [(0, .ref h0)] := hl
  have hw : wS D A s.heap [(h0, .inr (10, [.null, .int (iI 0), .int (iI 0), .int (iI 0)]))] s.heap [] := hw
  refine lv_aload_n hx hb dX9_init_0 rfl (lv_at hl 0 rfl) ?_
  refine r_objInit hx hb hml hC hl.1 ml_X9_3 im_init cd_init (by decide) (Nat.le_of_ble_eq_true rfl) (by decide) dX9_init_1 ?_
  refine lv_aload_n hx hb dX9_init_4 rfl (lv_at hl 0 rfl) ?_
  refine r_bipush hx hb dX9_init_5 (by decide +kernel) ?_
  refine r_newi (N := 80) hx hb hC hA hw ac_int (by decide) (by decide) (by decide) (by decide) rfl rfl dX9_init_7 (fun a1 H hw => ?_)
  have hw : wS D A s.heap [(h0, .inr (10, [.null, .int (iI 0), .int (iI 0), .int (iI 0)])), (a1, .inl (τ 0, 80, .inl (ar (fun _ => 0))))] H _ := hw
  refine pf_X9_9 (ws' := [(h0, .inr (10, [.ref a1, .int (iI 0), .int (iI 0), .int (iI 0)])), (a1, .inl (τ 0, 80, .inl (ar (fun _ => 0))))]) hx hb hC hw hnm 0 rfl (Nat.le_of_ble_eq_true rfl) rfl dX9_init_9 (fun H locs hw => ?_)
  refine lv_aload_n hx hb dX9_init_12 rfl (lv_at hl 0 rfl) ?_
  refine r_iconst hx hb dX9_init_13 ?_
  refine pf_X9_15 (ws' := [(h0, .inr (10, [.ref a1, .int (iI 0), .int (iI 0), .int (iI 0)])), (a1, .inl (τ 0, 80, .inl (ar (fun _ => 0))))]) hx hb hC hw 0 rfl (Nat.le_of_ble_eq_true rfl) rfl dX9_init_14 (fun H locs hw => ?_)
  refine lv_aload_n hx hb dX9_init_17 rfl (lv_at hl 0 rfl) ?_
  refine r_iconst hx hb dX9_init_18 ?_
  refine pf_X9_19 (ws' := [(h0, .inr (10, [.ref a1, .int (iI 0), .int (iI 0), .int (iI 0)])), (a1, .inl (τ 0, 80, .inl (ar (fun _ => 0))))]) hx hb hC hw 0 rfl (Nat.le_of_ble_eq_true rfl) rfl dX9_init_19 (fun H locs hw => ?_)
  refine lv_aload_n hx hb dX9_init_22 rfl (lv_at hl 0 rfl) ?_
  refine r_iconst hx hb dX9_init_23 ?_
  refine pf_X9_22 (ws' := [(h0, .inr (10, [.ref a1, .int (iI 0), .int (iI 0), .int (iI 0)])), (a1, .inl (τ 0, 80, .inl (ar (fun _ => 0))))]) hx hb hC hw 0 rfl (Nat.le_of_ble_eq_true rfl) rfl dX9_init_24 (fun H locs hw => ?_)
  exact r_vret hx hb hr hlk hw [(h0, .inr (10, [.ref a1, .int (iI 0), .int (iI 0), .int (iI 0)])), (a1, .inl (τ 0, 80, .inl (ar (fun _ => 0))))] [0, 1] rfl (by decide) ⟨a1, trivial, rfl⟩ dX9_init_27
abbrev W_c_Row_init (τ : Nat → ClassId) (h0 : Nat) : va_W := [(h0, .inr (5, [.null, .int (iI 0)]))]
abbrev E_c_Row_init (τ : Nat → ClassId) (h0 : Nat) : va_W → Prop := fun w => ∃ (a0 : Nat), (True) ∧ w = [(h0, .inr (5, [.ref a0, .int (iI 0)])), (a0, .inl (τ 1, 8, .inr (.inl (arL (fun _ => 0)))))]
set_option maxHeartbeats 4000000 in
set_option maxRecDepth 100000 in
theorem c_Row_init (l : Launch) (D : va_G) (τ : Nat → ClassId) (sz : Nat) (h0 : Nat)  : Met l yX4_init (lw_w yX4_init cX4_init 1 none) (rmk 1 1 8) (gPc D τ (W_c_Row_init τ h0) sz [.ref h0]) (gQv D (E_c_Row_init τ h0) (va_A (W_c_Row_init τ h0) sz)) 1 8 (va_A (W_c_Row_init τ h0) sz) := by
  refine g_met (ret := none) (Qc := gQv D (E_c_Row_init τ h0)) (by decide +kernel) (Nat.le_of_ble_eq_true rfl) ?_
  intro p e s m args below meth c A ls hx hb hml hr hlk hnm hC hA hw hl
  have hC : cx D τ s m args RX4 := hC
  have hl : lv_has ls 1 [(0, .ref h0)] := hl
  have hw : wS D A s.heap [(h0, .inr (5, [.null, .int (iI 0)]))] s.heap [] := hw
  refine lv_aload_n hx hb dX4_init_0 rfl (lv_at hl 0 rfl) ?_
  refine r_objInit hx hb hml hC hl.1 ml_X4_3 im_init cd_init (by decide) (Nat.le_of_ble_eq_true rfl) (by decide) dX4_init_1 ?_
  refine lv_aload_n hx hb dX4_init_4 rfl (lv_at hl 0 rfl) ?_
  refine r_bipush hx hb dX4_init_5 (by decide +kernel) ?_
  refine r_newl (N := 8) hx hb hC hA hw ac_long (by decide) (by decide) (by decide) (by decide) rfl rfl dX4_init_7 (fun a1 H hw => ?_)
  have hw : wS D A s.heap [(h0, .inr (5, [.null, .int (iI 0)])), (a1, .inl (τ 1, 8, .inr (.inl (arL (fun _ => 0)))))] H _ := hw
  refine pf_X4_9 (ws' := [(h0, .inr (5, [.ref a1, .int (iI 0)])), (a1, .inl (τ 1, 8, .inr (.inl (arL (fun _ => 0)))))]) hx hb hC hw hnm 0 rfl (Nat.le_of_ble_eq_true rfl) rfl dX4_init_9 (fun H locs hw => ?_)
  refine lv_aload_n hx hb dX4_init_12 rfl (lv_at hl 0 rfl) ?_
  refine r_iconst hx hb dX4_init_13 ?_
  refine pf_X4_15 (ws' := [(h0, .inr (5, [.ref a1, .int (iI 0)])), (a1, .inl (τ 1, 8, .inr (.inl (arL (fun _ => 0)))))]) hx hb hC hw 0 rfl (Nat.le_of_ble_eq_true rfl) rfl dX4_init_14 (fun H locs hw => ?_)
  exact r_vret hx hb hr hlk hw [(h0, .inr (5, [.ref a1, .int (iI 0)])), (a1, .inl (τ 1, 8, .inr (.inl (arL (fun _ => 0)))))] [0, 1] rfl (by decide) ⟨a1, trivial, rfl⟩ dX4_init_17
abbrev W_c_Street_init (τ : Nat → ClassId) (h8 : Nat) : va_W := [(h8, .inr (9, [.null, .int (iI 0), .int (iI 0), .int (iI 0)]))]
abbrev E_c_Street_init (τ : Nat → ClassId) (h8 : Nat) : va_W → Prop := fun w => ∃ (d8 : Nat), (True) ∧ w = [(h8, .inr (9, [.ref d8, .int (iI 4), .int (iI 0), .int (iI 1)])), (d8, .inl (τ 0, 20, .inl (ar (fun _ => 0))))]
set_option maxHeartbeats 4000000 in
set_option maxRecDepth 100000 in
theorem c_Street_init (l : Launch) (D : va_G) (τ : Nat → ClassId) (sz : Nat) (h8 : Nat)  : Met l yX8_init (lw_w yX8_init cX8_init 1 none) (rmk 1 1 20) (gPc D τ (W_c_Street_init τ h8) sz [.ref h8]) (gQv D (E_c_Street_init τ h8) (va_A (W_c_Street_init τ h8) sz)) 1 20 (va_A (W_c_Street_init τ h8) sz) := by
  refine g_met (ret := none) (Qc := gQv D (E_c_Street_init τ h8)) (by decide +kernel) (Nat.le_of_ble_eq_true rfl) ?_
  intro p e s m args below meth c A ls hx hb hml hr hlk hnm hC hA hw hl
  have hC : cx D τ s m args RX8 := hC
  have hl : lv_has ls 1 [(0, .ref h8)] := hl
  have hw : wS D A s.heap [(h8, .inr (9, [.null, .int (iI 0), .int (iI 0), .int (iI 0)]))] s.heap [] := hw
  refine lv_aload_n hx hb dX8_init_0 rfl (lv_at hl 0 rfl) ?_
  refine r_objInit hx hb hml hC hl.1 ml_X8_3 im_init cd_init (by decide) (Nat.le_of_ble_eq_true rfl) (by decide) dX8_init_1 ?_
  refine lv_aload_n hx hb dX8_init_4 rfl (lv_at hl 0 rfl) ?_
  refine r_bipush hx hb dX8_init_5 (by decide +kernel) ?_
  refine r_newi (N := 20) hx hb hC hA hw ac_int (by decide) (by decide) (by decide) (by decide) rfl rfl dX8_init_7 (fun a1 H hw => ?_)
  have hw : wS D A s.heap [(h8, .inr (9, [.null, .int (iI 0), .int (iI 0), .int (iI 0)])), (a1, .inl (τ 0, 20, .inl (ar (fun _ => 0))))] H _ := hw
  refine pf_X8_9 (ws' := [(h8, .inr (9, [.ref a1, .int (iI 0), .int (iI 0), .int (iI 0)])), (a1, .inl (τ 0, 20, .inl (ar (fun _ => 0))))]) hx hb hC hw hnm 0 rfl (Nat.le_of_ble_eq_true rfl) rfl dX8_init_9 (fun H locs hw => ?_)
  refine lv_aload_n hx hb dX8_init_12 rfl (lv_at hl 0 rfl) ?_
  refine r_iconst hx hb dX8_init_13 ?_
  refine pf_X8_15 (ws' := [(h8, .inr (9, [.ref a1, .int (iI 4), .int (iI 0), .int (iI 0)])), (a1, .inl (τ 0, 20, .inl (ar (fun _ => 0))))]) hx hb hC hw 0 rfl (Nat.le_of_ble_eq_true rfl) rfl dX8_init_14 (fun H locs hw => ?_)
  refine lv_aload_n hx hb dX8_init_17 rfl (lv_at hl 0 rfl) ?_
  refine r_iconst hx hb dX8_init_18 ?_
  refine pf_X8_19 (ws' := [(h8, .inr (9, [.ref a1, .int (iI 4), .int (iI 0), .int (iI 0)])), (a1, .inl (τ 0, 20, .inl (ar (fun _ => 0))))]) hx hb hC hw 0 rfl (Nat.le_of_ble_eq_true rfl) rfl dX8_init_19 (fun H locs hw => ?_)
  refine lv_aload_n hx hb dX8_init_22 rfl (lv_at hl 0 rfl) ?_
  refine r_iconst hx hb dX8_init_23 ?_
  refine pf_X8_22 (ws' := [(h8, .inr (9, [.ref a1, .int (iI 4), .int (iI 0), .int (iI 1)])), (a1, .inl (τ 0, 20, .inl (ar (fun _ => 0))))]) hx hb hC hw 0 rfl (Nat.le_of_ble_eq_true rfl) rfl dX8_init_24 (fun H locs hw => ?_)
  exact r_vret hx hb hr hlk hw [(h8, .inr (9, [.ref a1, .int (iI 4), .int (iI 0), .int (iI 1)])), (a1, .inl (τ 0, 20, .inl (ar (fun _ => 0))))] [0, 1] rfl (by decide) ⟨a1, trivial, rfl⟩ dX8_init_27
abbrev W_c_Scene_init (τ : Nat → ClassId) (h0 : Nat) : va_W := [(h0, .inr (7, [.null, .null, .null, .null, .null, .null, .int (iI 0), .int (iI 0), .int (iI 0), .int (iI 0), .int (iI 0)]))]
abbrev E_c_Scene_init (τ : Nat → ClassId) (h0 : Nat) : va_W → Prop := fun w => ∃ (c0 : Nat), ∃ (k0 : Nat), ∃ (p0 : Nat), ∃ (o0 : Nat), ∃ (f0 : Nat), ∃ (g0 : Nat), (True) ∧ w = [(h0, .inr (7, [.ref c0, .ref k0, .ref p0, .ref o0, .ref f0, .ref g0, .int (iI 0), .int (iI 0), .int (iI 0), .int (iI 0), .int (iI 0)])), (c0, .inl (τ 0, 6, .inl (ar (fun _ => 0)))), (k0, .inl (τ 0, 6, .inl (ar (fun _ => 0)))), (p0, .inl (τ 0, 8, .inl (ar (fun _ => 0)))), (o0, .inl (τ 0, 8, .inl (ar (fun _ => 0)))), (f0, .inl (τ 0, 8, .inl (ar (fun _ => 0)))), (g0, .inl (τ 0, 8, .inl (ar (fun _ => 0))))]
set_option maxHeartbeats 4000000 in
set_option maxRecDepth 100000 in
theorem c_Scene_init (l : Launch) (D : va_G) (τ : Nat → ClassId) (sz : Nat) (h0 : Nat)  : Met l yX6_init (lw_w yX6_init cX6_init 1 none) (rmk 1 6 44) (gPc D τ (W_c_Scene_init τ h0) sz [.ref h0]) (gQv D (E_c_Scene_init τ h0) (va_A (W_c_Scene_init τ h0) sz)) 6 44 (va_A (W_c_Scene_init τ h0) sz) := by
  refine g_met (ret := none) (Qc := gQv D (E_c_Scene_init τ h0)) (by decide +kernel) (Nat.le_of_ble_eq_true rfl) ?_
  intro p e s m args below meth c A ls hx hb hml hr hlk hnm hC hA hw hl
  have hC : cx D τ s m args RX6 := hC
  have hl : lv_has ls 1 [(0, .ref h0)] := hl
  have hw : wS D A s.heap [(h0, .inr (7, [.null, .null, .null, .null, .null, .null, .int (iI 0), .int (iI 0), .int (iI 0), .int (iI 0), .int (iI 0)]))] s.heap [] := hw
  refine lv_aload_n hx hb dX6_init_0 rfl (lv_at hl 0 rfl) ?_
  refine r_objInit hx hb hml hC hl.1 ml_X6_3 im_init cd_init (by decide) (Nat.le_of_ble_eq_true rfl) (by decide) dX6_init_1 ?_
  refine lv_aload_n hx hb dX6_init_4 rfl (lv_at hl 0 rfl) ?_
  refine r_bipush hx hb dX6_init_5 (by decide +kernel) ?_
  refine r_newi (N := 6) hx hb hC hA hw ac_int (by decide) (by decide) (by decide) (by decide) rfl rfl dX6_init_7 (fun a1 H hw => ?_)
  have hw : wS D A s.heap [(h0, .inr (7, [.null, .null, .null, .null, .null, .null, .int (iI 0), .int (iI 0), .int (iI 0), .int (iI 0), .int (iI 0)])), (a1, .inl (τ 0, 6, .inl (ar (fun _ => 0))))] H _ := hw
  refine pf_X6_9 (ws' := [(h0, .inr (7, [.ref a1, .null, .null, .null, .null, .null, .int (iI 0), .int (iI 0), .int (iI 0), .int (iI 0), .int (iI 0)])), (a1, .inl (τ 0, 6, .inl (ar (fun _ => 0))))]) hx hb hC hw hnm 0 rfl (Nat.le_of_ble_eq_true rfl) rfl dX6_init_9 (fun H locs hw => ?_)
  refine lv_aload_n hx hb dX6_init_12 rfl (lv_at hl 0 rfl) ?_
  refine r_bipush hx hb dX6_init_13 (by decide +kernel) ?_
  refine r_newi (N := 6) hx hb hC hA hw ac_int (by decide) (by decide) (by decide) (by decide) rfl rfl dX6_init_15 (fun a2 H hw => ?_)
  have hw : wS D A s.heap [(h0, .inr (7, [.ref a1, .null, .null, .null, .null, .null, .int (iI 0), .int (iI 0), .int (iI 0), .int (iI 0), .int (iI 0)])), (a1, .inl (τ 0, 6, .inl (ar (fun _ => 0)))), (a2, .inl (τ 0, 6, .inl (ar (fun _ => 0))))] H _ := hw
  refine pf_X6_15 (ws' := [(h0, .inr (7, [.ref a1, .ref a2, .null, .null, .null, .null, .int (iI 0), .int (iI 0), .int (iI 0), .int (iI 0), .int (iI 0)])), (a1, .inl (τ 0, 6, .inl (ar (fun _ => 0)))), (a2, .inl (τ 0, 6, .inl (ar (fun _ => 0))))]) hx hb hC hw hnm 0 rfl (Nat.le_of_ble_eq_true rfl) rfl dX6_init_17 (fun H locs hw => ?_)
  refine lv_aload_n hx hb dX6_init_20 rfl (lv_at hl 0 rfl) ?_
  refine r_bipush hx hb dX6_init_21 (by decide +kernel) ?_
  refine r_newi (N := 8) hx hb hC hA hw ac_int (by decide) (by decide) (by decide) (by decide) rfl rfl dX6_init_23 (fun a3 H hw => ?_)
  have hw : wS D A s.heap [(h0, .inr (7, [.ref a1, .ref a2, .null, .null, .null, .null, .int (iI 0), .int (iI 0), .int (iI 0), .int (iI 0), .int (iI 0)])), (a1, .inl (τ 0, 6, .inl (ar (fun _ => 0)))), (a2, .inl (τ 0, 6, .inl (ar (fun _ => 0)))), (a3, .inl (τ 0, 8, .inl (ar (fun _ => 0))))] H _ := hw
  refine pf_X6_18 (ws' := [(h0, .inr (7, [.ref a1, .ref a2, .ref a3, .null, .null, .null, .int (iI 0), .int (iI 0), .int (iI 0), .int (iI 0), .int (iI 0)])), (a1, .inl (τ 0, 6, .inl (ar (fun _ => 0)))), (a2, .inl (τ 0, 6, .inl (ar (fun _ => 0)))), (a3, .inl (τ 0, 8, .inl (ar (fun _ => 0))))]) hx hb hC hw hnm 0 rfl (Nat.le_of_ble_eq_true rfl) rfl dX6_init_25 (fun H locs hw => ?_)
  refine lv_aload_n hx hb dX6_init_28 rfl (lv_at hl 0 rfl) ?_
  refine r_bipush hx hb dX6_init_29 (by decide +kernel) ?_
  refine r_newi (N := 8) hx hb hC hA hw ac_int (by decide) (by decide) (by decide) (by decide) rfl rfl dX6_init_31 (fun a4 H hw => ?_)
  have hw : wS D A s.heap [(h0, .inr (7, [.ref a1, .ref a2, .ref a3, .null, .null, .null, .int (iI 0), .int (iI 0), .int (iI 0), .int (iI 0), .int (iI 0)])), (a1, .inl (τ 0, 6, .inl (ar (fun _ => 0)))), (a2, .inl (τ 0, 6, .inl (ar (fun _ => 0)))), (a3, .inl (τ 0, 8, .inl (ar (fun _ => 0)))), (a4, .inl (τ 0, 8, .inl (ar (fun _ => 0))))] H _ := hw
  refine pf_X6_21 (ws' := [(h0, .inr (7, [.ref a1, .ref a2, .ref a3, .ref a4, .null, .null, .int (iI 0), .int (iI 0), .int (iI 0), .int (iI 0), .int (iI 0)])), (a1, .inl (τ 0, 6, .inl (ar (fun _ => 0)))), (a2, .inl (τ 0, 6, .inl (ar (fun _ => 0)))), (a3, .inl (τ 0, 8, .inl (ar (fun _ => 0)))), (a4, .inl (τ 0, 8, .inl (ar (fun _ => 0))))]) hx hb hC hw hnm 0 rfl (Nat.le_of_ble_eq_true rfl) rfl dX6_init_33 (fun H locs hw => ?_)
  refine lv_aload_n hx hb dX6_init_36 rfl (lv_at hl 0 rfl) ?_
  refine r_bipush hx hb dX6_init_37 (by decide +kernel) ?_
  refine r_newi (N := 8) hx hb hC hA hw ac_int (by decide) (by decide) (by decide) (by decide) rfl rfl dX6_init_39 (fun a5 H hw => ?_)
  have hw : wS D A s.heap [(h0, .inr (7, [.ref a1, .ref a2, .ref a3, .ref a4, .null, .null, .int (iI 0), .int (iI 0), .int (iI 0), .int (iI 0), .int (iI 0)])), (a1, .inl (τ 0, 6, .inl (ar (fun _ => 0)))), (a2, .inl (τ 0, 6, .inl (ar (fun _ => 0)))), (a3, .inl (τ 0, 8, .inl (ar (fun _ => 0)))), (a4, .inl (τ 0, 8, .inl (ar (fun _ => 0)))), (a5, .inl (τ 0, 8, .inl (ar (fun _ => 0))))] H _ := hw
  refine pf_X6_24 (ws' := [(h0, .inr (7, [.ref a1, .ref a2, .ref a3, .ref a4, .ref a5, .null, .int (iI 0), .int (iI 0), .int (iI 0), .int (iI 0), .int (iI 0)])), (a1, .inl (τ 0, 6, .inl (ar (fun _ => 0)))), (a2, .inl (τ 0, 6, .inl (ar (fun _ => 0)))), (a3, .inl (τ 0, 8, .inl (ar (fun _ => 0)))), (a4, .inl (τ 0, 8, .inl (ar (fun _ => 0)))), (a5, .inl (τ 0, 8, .inl (ar (fun _ => 0))))]) hx hb hC hw hnm 0 rfl (Nat.le_of_ble_eq_true rfl) rfl dX6_init_41 (fun H locs hw => ?_)
  refine lv_aload_n hx hb dX6_init_44 rfl (lv_at hl 0 rfl) ?_
  refine r_bipush hx hb dX6_init_45 (by decide +kernel) ?_
  refine r_newi (N := 8) hx hb hC hA hw ac_int (by decide) (by decide) (by decide) (by decide) rfl rfl dX6_init_47 (fun a6 H hw => ?_)
  have hw : wS D A s.heap [(h0, .inr (7, [.ref a1, .ref a2, .ref a3, .ref a4, .ref a5, .null, .int (iI 0), .int (iI 0), .int (iI 0), .int (iI 0), .int (iI 0)])), (a1, .inl (τ 0, 6, .inl (ar (fun _ => 0)))), (a2, .inl (τ 0, 6, .inl (ar (fun _ => 0)))), (a3, .inl (τ 0, 8, .inl (ar (fun _ => 0)))), (a4, .inl (τ 0, 8, .inl (ar (fun _ => 0)))), (a5, .inl (τ 0, 8, .inl (ar (fun _ => 0)))), (a6, .inl (τ 0, 8, .inl (ar (fun _ => 0))))] H _ := hw
  refine pf_X6_27 (ws' := [(h0, .inr (7, [.ref a1, .ref a2, .ref a3, .ref a4, .ref a5, .ref a6, .int (iI 0), .int (iI 0), .int (iI 0), .int (iI 0), .int (iI 0)])), (a1, .inl (τ 0, 6, .inl (ar (fun _ => 0)))), (a2, .inl (τ 0, 6, .inl (ar (fun _ => 0)))), (a3, .inl (τ 0, 8, .inl (ar (fun _ => 0)))), (a4, .inl (τ 0, 8, .inl (ar (fun _ => 0)))), (a5, .inl (τ 0, 8, .inl (ar (fun _ => 0)))), (a6, .inl (τ 0, 8, .inl (ar (fun _ => 0))))]) hx hb hC hw hnm 0 rfl (Nat.le_of_ble_eq_true rfl) rfl dX6_init_49 (fun H locs hw => ?_)
  refine lv_aload_n hx hb dX6_init_52 rfl (lv_at hl 0 rfl) ?_
  refine r_iconst hx hb dX6_init_53 ?_
  refine pf_X6_30 (ws' := [(h0, .inr (7, [.ref a1, .ref a2, .ref a3, .ref a4, .ref a5, .ref a6, .int (iI 0), .int (iI 0), .int (iI 0), .int (iI 0), .int (iI 0)])), (a1, .inl (τ 0, 6, .inl (ar (fun _ => 0)))), (a2, .inl (τ 0, 6, .inl (ar (fun _ => 0)))), (a3, .inl (τ 0, 8, .inl (ar (fun _ => 0)))), (a4, .inl (τ 0, 8, .inl (ar (fun _ => 0)))), (a5, .inl (τ 0, 8, .inl (ar (fun _ => 0)))), (a6, .inl (τ 0, 8, .inl (ar (fun _ => 0))))]) hx hb hC hw 0 rfl (Nat.le_of_ble_eq_true rfl) rfl dX6_init_54 (fun H locs hw => ?_)
  refine lv_aload_n hx hb dX6_init_57 rfl (lv_at hl 0 rfl) ?_
  refine r_iconst hx hb dX6_init_58 ?_
  refine pf_X6_34 (ws' := [(h0, .inr (7, [.ref a1, .ref a2, .ref a3, .ref a4, .ref a5, .ref a6, .int (iI 0), .int (iI 0), .int (iI 0), .int (iI 0), .int (iI 0)])), (a1, .inl (τ 0, 6, .inl (ar (fun _ => 0)))), (a2, .inl (τ 0, 6, .inl (ar (fun _ => 0)))), (a3, .inl (τ 0, 8, .inl (ar (fun _ => 0)))), (a4, .inl (τ 0, 8, .inl (ar (fun _ => 0)))), (a5, .inl (τ 0, 8, .inl (ar (fun _ => 0)))), (a6, .inl (τ 0, 8, .inl (ar (fun _ => 0))))]) hx hb hC hw 0 rfl (Nat.le_of_ble_eq_true rfl) rfl dX6_init_59 (fun H locs hw => ?_)
  refine lv_aload_n hx hb dX6_init_62 rfl (lv_at hl 0 rfl) ?_
  refine r_iconst hx hb dX6_init_63 ?_
  refine pf_X6_37 (ws' := [(h0, .inr (7, [.ref a1, .ref a2, .ref a3, .ref a4, .ref a5, .ref a6, .int (iI 0), .int (iI 0), .int (iI 0), .int (iI 0), .int (iI 0)])), (a1, .inl (τ 0, 6, .inl (ar (fun _ => 0)))), (a2, .inl (τ 0, 6, .inl (ar (fun _ => 0)))), (a3, .inl (τ 0, 8, .inl (ar (fun _ => 0)))), (a4, .inl (τ 0, 8, .inl (ar (fun _ => 0)))), (a5, .inl (τ 0, 8, .inl (ar (fun _ => 0)))), (a6, .inl (τ 0, 8, .inl (ar (fun _ => 0))))]) hx hb hC hw 0 rfl (Nat.le_of_ble_eq_true rfl) rfl dX6_init_64 (fun H locs hw => ?_)
  refine lv_aload_n hx hb dX6_init_67 rfl (lv_at hl 0 rfl) ?_
  refine r_iconst hx hb dX6_init_68 ?_
  refine pf_X6_40 (ws' := [(h0, .inr (7, [.ref a1, .ref a2, .ref a3, .ref a4, .ref a5, .ref a6, .int (iI 0), .int (iI 0), .int (iI 0), .int (iI 0), .int (iI 0)])), (a1, .inl (τ 0, 6, .inl (ar (fun _ => 0)))), (a2, .inl (τ 0, 6, .inl (ar (fun _ => 0)))), (a3, .inl (τ 0, 8, .inl (ar (fun _ => 0)))), (a4, .inl (τ 0, 8, .inl (ar (fun _ => 0)))), (a5, .inl (τ 0, 8, .inl (ar (fun _ => 0)))), (a6, .inl (τ 0, 8, .inl (ar (fun _ => 0))))]) hx hb hC hw 0 rfl (Nat.le_of_ble_eq_true rfl) rfl dX6_init_69 (fun H locs hw => ?_)
  refine lv_aload_n hx hb dX6_init_72 rfl (lv_at hl 0 rfl) ?_
  refine r_iconst hx hb dX6_init_73 ?_
  refine pf_X6_43 (ws' := [(h0, .inr (7, [.ref a1, .ref a2, .ref a3, .ref a4, .ref a5, .ref a6, .int (iI 0), .int (iI 0), .int (iI 0), .int (iI 0), .int (iI 0)])), (a1, .inl (τ 0, 6, .inl (ar (fun _ => 0)))), (a2, .inl (τ 0, 6, .inl (ar (fun _ => 0)))), (a3, .inl (τ 0, 8, .inl (ar (fun _ => 0)))), (a4, .inl (τ 0, 8, .inl (ar (fun _ => 0)))), (a5, .inl (τ 0, 8, .inl (ar (fun _ => 0)))), (a6, .inl (τ 0, 8, .inl (ar (fun _ => 0))))]) hx hb hC hw 0 rfl (Nat.le_of_ble_eq_true rfl) rfl dX6_init_74 (fun H locs hw => ?_)
  exact r_vret hx hb hr hlk hw [(h0, .inr (7, [.ref a1, .ref a2, .ref a3, .ref a4, .ref a5, .ref a6, .int (iI 0), .int (iI 0), .int (iI 0), .int (iI 0), .int (iI 0)])), (a1, .inl (τ 0, 6, .inl (ar (fun _ => 0)))), (a2, .inl (τ 0, 6, .inl (ar (fun _ => 0)))), (a3, .inl (τ 0, 8, .inl (ar (fun _ => 0)))), (a4, .inl (τ 0, 8, .inl (ar (fun _ => 0)))), (a5, .inl (τ 0, 8, .inl (ar (fun _ => 0)))), (a6, .inl (τ 0, 8, .inl (ar (fun _ => 0))))] [0, 1, 2, 3, 4, 5, 6] rfl (by decide) ⟨a1, a2, a3, a4, a5, a6, trivial, rfl⟩ dX6_init_77
abbrev W_c_Law_init (τ : Nat → ClassId) (h2 : Nat) : va_W := [(h2, .inr (3, [.null, .null, .null, .null, .int (iI 0), .int (iI 0)]))]
abbrev E_c_Law_init (τ : Nat → ClassId) (h2 : Nat) : va_W → Prop := fun w => ∃ (ka2 : Nat), ∃ (va2 : Nat), ∃ (sa2 : Nat), ∃ (ga2 : Nat), (True) ∧ w = [(h2, .inr (3, [.ref ka2, .ref va2, .ref sa2, .ref ga2, .int (iI 0), .int (iI 0)])), (ka2, .inl (τ 0, 40, .inl (ar (fun _ => 0)))), (va2, .inl (τ 0, 40, .inl (ar (fun _ => 0)))), (sa2, .inl (τ 0, 40, .inl (ar (fun _ => 0)))), (ga2, .inl (τ 0, 7, .inl (ar (fun _ => 0))))]
set_option maxHeartbeats 4000000 in
set_option maxRecDepth 100000 in
theorem c_Law_init (l : Launch) (D : va_G) (τ : Nat → ClassId) (sz : Nat) (h2 : Nat)  : Met l yX2_init (lw_w yX2_init cX2_init 1 none) (rmk 1 4 127) (gPc D τ (W_c_Law_init τ h2) sz [.ref h2]) (gQv D (E_c_Law_init τ h2) (va_A (W_c_Law_init τ h2) sz)) 4 127 (va_A (W_c_Law_init τ h2) sz) := by
  refine g_met (ret := none) (Qc := gQv D (E_c_Law_init τ h2)) (by decide +kernel) (Nat.le_of_ble_eq_true rfl) ?_
  intro p e s m args below meth c A ls hx hb hml hr hlk hnm hC hA hw hl
  have hC : cx D τ s m args RX2 := hC
  have hl : lv_has ls 1 [(0, .ref h2)] := hl
  have hw : wS D A s.heap [(h2, .inr (3, [.null, .null, .null, .null, .int (iI 0), .int (iI 0)]))] s.heap [] := hw
  refine lv_aload_n hx hb dX2_init_0 rfl (lv_at hl 0 rfl) ?_
  refine r_objInit hx hb hml hC hl.1 ml_X2_3 im_init cd_init (by decide) (Nat.le_of_ble_eq_true rfl) (by decide) dX2_init_1 ?_
  refine lv_aload_n hx hb dX2_init_4 rfl (lv_at hl 0 rfl) ?_
  refine r_bipush hx hb dX2_init_5 (by decide +kernel) ?_
  refine r_newi (N := 40) hx hb hC hA hw ac_int (by decide) (by decide) (by decide) (by decide) rfl rfl dX2_init_7 (fun a1 H hw => ?_)
  have hw : wS D A s.heap [(h2, .inr (3, [.null, .null, .null, .null, .int (iI 0), .int (iI 0)])), (a1, .inl (τ 0, 40, .inl (ar (fun _ => 0))))] H _ := hw
  refine pf_X2_9 (ws' := [(h2, .inr (3, [.ref a1, .null, .null, .null, .int (iI 0), .int (iI 0)])), (a1, .inl (τ 0, 40, .inl (ar (fun _ => 0))))]) hx hb hC hw hnm 0 rfl (Nat.le_of_ble_eq_true rfl) rfl dX2_init_9 (fun H locs hw => ?_)
  refine lv_aload_n hx hb dX2_init_12 rfl (lv_at hl 0 rfl) ?_
  refine r_bipush hx hb dX2_init_13 (by decide +kernel) ?_
  refine r_newi (N := 40) hx hb hC hA hw ac_int (by decide) (by decide) (by decide) (by decide) rfl rfl dX2_init_15 (fun a2 H hw => ?_)
  have hw : wS D A s.heap [(h2, .inr (3, [.ref a1, .null, .null, .null, .int (iI 0), .int (iI 0)])), (a1, .inl (τ 0, 40, .inl (ar (fun _ => 0)))), (a2, .inl (τ 0, 40, .inl (ar (fun _ => 0))))] H _ := hw
  refine pf_X2_15 (ws' := [(h2, .inr (3, [.ref a1, .ref a2, .null, .null, .int (iI 0), .int (iI 0)])), (a1, .inl (τ 0, 40, .inl (ar (fun _ => 0)))), (a2, .inl (τ 0, 40, .inl (ar (fun _ => 0))))]) hx hb hC hw hnm 0 rfl (Nat.le_of_ble_eq_true rfl) rfl dX2_init_17 (fun H locs hw => ?_)
  refine lv_aload_n hx hb dX2_init_20 rfl (lv_at hl 0 rfl) ?_
  refine r_bipush hx hb dX2_init_21 (by decide +kernel) ?_
  refine r_newi (N := 40) hx hb hC hA hw ac_int (by decide) (by decide) (by decide) (by decide) rfl rfl dX2_init_23 (fun a3 H hw => ?_)
  have hw : wS D A s.heap [(h2, .inr (3, [.ref a1, .ref a2, .null, .null, .int (iI 0), .int (iI 0)])), (a1, .inl (τ 0, 40, .inl (ar (fun _ => 0)))), (a2, .inl (τ 0, 40, .inl (ar (fun _ => 0)))), (a3, .inl (τ 0, 40, .inl (ar (fun _ => 0))))] H _ := hw
  refine pf_X2_18 (ws' := [(h2, .inr (3, [.ref a1, .ref a2, .ref a3, .null, .int (iI 0), .int (iI 0)])), (a1, .inl (τ 0, 40, .inl (ar (fun _ => 0)))), (a2, .inl (τ 0, 40, .inl (ar (fun _ => 0)))), (a3, .inl (τ 0, 40, .inl (ar (fun _ => 0))))]) hx hb hC hw hnm 0 rfl (Nat.le_of_ble_eq_true rfl) rfl dX2_init_25 (fun H locs hw => ?_)
  refine lv_aload_n hx hb dX2_init_28 rfl (lv_at hl 0 rfl) ?_
  refine r_bipush hx hb dX2_init_29 (by decide +kernel) ?_
  refine r_newi (N := 7) hx hb hC hA hw ac_int (by decide) (by decide) (by decide) (by decide) rfl rfl dX2_init_31 (fun a4 H hw => ?_)
  have hw : wS D A s.heap [(h2, .inr (3, [.ref a1, .ref a2, .ref a3, .null, .int (iI 0), .int (iI 0)])), (a1, .inl (τ 0, 40, .inl (ar (fun _ => 0)))), (a2, .inl (τ 0, 40, .inl (ar (fun _ => 0)))), (a3, .inl (τ 0, 40, .inl (ar (fun _ => 0)))), (a4, .inl (τ 0, 7, .inl (ar (fun _ => 0))))] H _ := hw
  refine pf_X2_21 (ws' := [(h2, .inr (3, [.ref a1, .ref a2, .ref a3, .ref a4, .int (iI 0), .int (iI 0)])), (a1, .inl (τ 0, 40, .inl (ar (fun _ => 0)))), (a2, .inl (τ 0, 40, .inl (ar (fun _ => 0)))), (a3, .inl (τ 0, 40, .inl (ar (fun _ => 0)))), (a4, .inl (τ 0, 7, .inl (ar (fun _ => 0))))]) hx hb hC hw hnm 0 rfl (Nat.le_of_ble_eq_true rfl) rfl dX2_init_33 (fun H locs hw => ?_)
  refine lv_aload_n hx hb dX2_init_36 rfl (lv_at hl 0 rfl) ?_
  refine r_iconst hx hb dX2_init_37 ?_
  refine pf_X2_24 (ws' := [(h2, .inr (3, [.ref a1, .ref a2, .ref a3, .ref a4, .int (iI 0), .int (iI 0)])), (a1, .inl (τ 0, 40, .inl (ar (fun _ => 0)))), (a2, .inl (τ 0, 40, .inl (ar (fun _ => 0)))), (a3, .inl (τ 0, 40, .inl (ar (fun _ => 0)))), (a4, .inl (τ 0, 7, .inl (ar (fun _ => 0))))]) hx hb hC hw 0 rfl (Nat.le_of_ble_eq_true rfl) rfl dX2_init_38 (fun H locs hw => ?_)
  refine lv_aload_n hx hb dX2_init_41 rfl (lv_at hl 0 rfl) ?_
  refine r_iconst hx hb dX2_init_42 ?_
  refine pf_X2_28 (ws' := [(h2, .inr (3, [.ref a1, .ref a2, .ref a3, .ref a4, .int (iI 0), .int (iI 0)])), (a1, .inl (τ 0, 40, .inl (ar (fun _ => 0)))), (a2, .inl (τ 0, 40, .inl (ar (fun _ => 0)))), (a3, .inl (τ 0, 40, .inl (ar (fun _ => 0)))), (a4, .inl (τ 0, 7, .inl (ar (fun _ => 0))))]) hx hb hC hw 0 rfl (Nat.le_of_ble_eq_true rfl) rfl dX2_init_43 (fun H locs hw => ?_)
  exact r_vret hx hb hr hlk hw [(h2, .inr (3, [.ref a1, .ref a2, .ref a3, .ref a4, .int (iI 0), .int (iI 0)])), (a1, .inl (τ 0, 40, .inl (ar (fun _ => 0)))), (a2, .inl (τ 0, 40, .inl (ar (fun _ => 0)))), (a3, .inl (τ 0, 40, .inl (ar (fun _ => 0)))), (a4, .inl (τ 0, 7, .inl (ar (fun _ => 0))))] [0, 1, 2, 3, 4] rfl (by decide) ⟨a1, a2, a3, a4, trivial, rfl⟩ dX2_init_46
abbrev W_c_Hear_init (τ : Nat → ClassId) (h3 : Nat) : va_W := [(h3, .inr (1, [.null, .null, .int (iI 0)]))]
abbrev E_c_Hear_init (τ : Nat → ClassId) (h3 : Nat) : va_W → Prop := fun w => ∃ (ha3 : Nat), ∃ (hb3 : Nat), (True) ∧ w = [(h3, .inr (1, [.ref ha3, .ref hb3, .int (iI 0)])), (ha3, .inl (τ 0, 8, .inl (ar (fun _ => 0)))), (hb3, .inl (τ 0, 8, .inl (ar (fun _ => 0))))]
set_option maxHeartbeats 4000000 in
set_option maxRecDepth 100000 in
theorem c_Hear_init (l : Launch) (D : va_G) (τ : Nat → ClassId) (sz : Nat) (h3 : Nat)  : Met l yX0_init (lw_w yX0_init cX0_init 1 none) (rmk 1 2 16) (gPc D τ (W_c_Hear_init τ h3) sz [.ref h3]) (gQv D (E_c_Hear_init τ h3) (va_A (W_c_Hear_init τ h3) sz)) 2 16 (va_A (W_c_Hear_init τ h3) sz) := by
  refine g_met (ret := none) (Qc := gQv D (E_c_Hear_init τ h3)) (by decide +kernel) (Nat.le_of_ble_eq_true rfl) ?_
  intro p e s m args below meth c A ls hx hb hml hr hlk hnm hC hA hw hl
  have hC : cx D τ s m args RX0 := hC
  have hl : lv_has ls 1 [(0, .ref h3)] := hl
  have hw : wS D A s.heap [(h3, .inr (1, [.null, .null, .int (iI 0)]))] s.heap [] := hw
  refine lv_aload_n hx hb dX0_init_0 rfl (lv_at hl 0 rfl) ?_
  refine r_objInit hx hb hml hC hl.1 ml_X0_3 im_init cd_init (by decide) (Nat.le_of_ble_eq_true rfl) (by decide) dX0_init_1 ?_
  refine lv_aload_n hx hb dX0_init_4 rfl (lv_at hl 0 rfl) ?_
  refine r_bipush hx hb dX0_init_5 (by decide +kernel) ?_
  refine r_newi (N := 8) hx hb hC hA hw ac_int (by decide) (by decide) (by decide) (by decide) rfl rfl dX0_init_7 (fun a1 H hw => ?_)
  have hw : wS D A s.heap [(h3, .inr (1, [.null, .null, .int (iI 0)])), (a1, .inl (τ 0, 8, .inl (ar (fun _ => 0))))] H _ := hw
  refine pf_X0_9 (ws' := [(h3, .inr (1, [.ref a1, .null, .int (iI 0)])), (a1, .inl (τ 0, 8, .inl (ar (fun _ => 0))))]) hx hb hC hw hnm 0 rfl (Nat.le_of_ble_eq_true rfl) rfl dX0_init_9 (fun H locs hw => ?_)
  refine lv_aload_n hx hb dX0_init_12 rfl (lv_at hl 0 rfl) ?_
  refine r_bipush hx hb dX0_init_13 (by decide +kernel) ?_
  refine r_newi (N := 8) hx hb hC hA hw ac_int (by decide) (by decide) (by decide) (by decide) rfl rfl dX0_init_15 (fun a2 H hw => ?_)
  have hw : wS D A s.heap [(h3, .inr (1, [.ref a1, .null, .int (iI 0)])), (a1, .inl (τ 0, 8, .inl (ar (fun _ => 0)))), (a2, .inl (τ 0, 8, .inl (ar (fun _ => 0))))] H _ := hw
  refine pf_X0_15 (ws' := [(h3, .inr (1, [.ref a1, .ref a2, .int (iI 0)])), (a1, .inl (τ 0, 8, .inl (ar (fun _ => 0)))), (a2, .inl (τ 0, 8, .inl (ar (fun _ => 0))))]) hx hb hC hw hnm 0 rfl (Nat.le_of_ble_eq_true rfl) rfl dX0_init_17 (fun H locs hw => ?_)
  refine lv_aload_n hx hb dX0_init_20 rfl (lv_at hl 0 rfl) ?_
  refine r_iconst hx hb dX0_init_21 ?_
  refine pf_X0_18 (ws' := [(h3, .inr (1, [.ref a1, .ref a2, .int (iI 0)])), (a1, .inl (τ 0, 8, .inl (ar (fun _ => 0)))), (a2, .inl (τ 0, 8, .inl (ar (fun _ => 0))))]) hx hb hC hw 0 rfl (Nat.le_of_ble_eq_true rfl) rfl dX0_init_22 (fun H locs hw => ?_)
  exact r_vret hx hb hr hlk hw [(h3, .inr (1, [.ref a1, .ref a2, .int (iI 0)])), (a1, .inl (τ 0, 8, .inl (ar (fun _ => 0)))), (a2, .inl (τ 0, 8, .inl (ar (fun _ => 0))))] [0, 1, 2] rfl (by decide) ⟨a1, a2, trivial, rfl⟩ dX0_init_25
abbrev W_c_Ord_init (τ : Nat → ClassId) (h4 : Nat) : va_W := [(h4, .inr (4, [.null, .null, .int (iI 0)]))]
abbrev E_c_Ord_init (τ : Nat → ClassId) (h4 : Nat) : va_W → Prop := fun w => ∃ (oc4 : Nat), ∃ (ob4 : Nat), (True) ∧ w = [(h4, .inr (4, [.ref oc4, .ref ob4, .int (iI 0)])), (oc4, .inl (τ 0, 6, .inl (ar (fun _ => 0)))), (ob4, .inl (τ 0, 6, .inl (ar (fun _ => 0))))]
set_option maxHeartbeats 4000000 in
set_option maxRecDepth 100000 in
theorem c_Ord_init (l : Launch) (D : va_G) (τ : Nat → ClassId) (sz : Nat) (h4 : Nat)  : Met l yX3_init (lw_w yX3_init cX3_init 1 none) (rmk 1 2 12) (gPc D τ (W_c_Ord_init τ h4) sz [.ref h4]) (gQv D (E_c_Ord_init τ h4) (va_A (W_c_Ord_init τ h4) sz)) 2 12 (va_A (W_c_Ord_init τ h4) sz) := by
  refine g_met (ret := none) (Qc := gQv D (E_c_Ord_init τ h4)) (by decide +kernel) (Nat.le_of_ble_eq_true rfl) ?_
  intro p e s m args below meth c A ls hx hb hml hr hlk hnm hC hA hw hl
  have hC : cx D τ s m args RX3 := hC
  have hl : lv_has ls 1 [(0, .ref h4)] := hl
  have hw : wS D A s.heap [(h4, .inr (4, [.null, .null, .int (iI 0)]))] s.heap [] := hw
  refine lv_aload_n hx hb dX3_init_0 rfl (lv_at hl 0 rfl) ?_
  refine r_objInit hx hb hml hC hl.1 ml_X3_3 im_init cd_init (by decide) (Nat.le_of_ble_eq_true rfl) (by decide) dX3_init_1 ?_
  refine lv_aload_n hx hb dX3_init_4 rfl (lv_at hl 0 rfl) ?_
  refine r_bipush hx hb dX3_init_5 (by decide +kernel) ?_
  refine r_newi (N := 6) hx hb hC hA hw ac_int (by decide) (by decide) (by decide) (by decide) rfl rfl dX3_init_7 (fun a1 H hw => ?_)
  have hw : wS D A s.heap [(h4, .inr (4, [.null, .null, .int (iI 0)])), (a1, .inl (τ 0, 6, .inl (ar (fun _ => 0))))] H _ := hw
  refine pf_X3_9 (ws' := [(h4, .inr (4, [.ref a1, .null, .int (iI 0)])), (a1, .inl (τ 0, 6, .inl (ar (fun _ => 0))))]) hx hb hC hw hnm 0 rfl (Nat.le_of_ble_eq_true rfl) rfl dX3_init_9 (fun H locs hw => ?_)
  refine lv_aload_n hx hb dX3_init_12 rfl (lv_at hl 0 rfl) ?_
  refine r_bipush hx hb dX3_init_13 (by decide +kernel) ?_
  refine r_newi (N := 6) hx hb hC hA hw ac_int (by decide) (by decide) (by decide) (by decide) rfl rfl dX3_init_15 (fun a2 H hw => ?_)
  have hw : wS D A s.heap [(h4, .inr (4, [.ref a1, .null, .int (iI 0)])), (a1, .inl (τ 0, 6, .inl (ar (fun _ => 0)))), (a2, .inl (τ 0, 6, .inl (ar (fun _ => 0))))] H _ := hw
  refine pf_X3_15 (ws' := [(h4, .inr (4, [.ref a1, .ref a2, .int (iI 0)])), (a1, .inl (τ 0, 6, .inl (ar (fun _ => 0)))), (a2, .inl (τ 0, 6, .inl (ar (fun _ => 0))))]) hx hb hC hw hnm 0 rfl (Nat.le_of_ble_eq_true rfl) rfl dX3_init_17 (fun H locs hw => ?_)
  refine lv_aload_n hx hb dX3_init_20 rfl (lv_at hl 0 rfl) ?_
  refine r_iconst hx hb dX3_init_21 ?_
  refine pf_X3_18 (ws' := [(h4, .inr (4, [.ref a1, .ref a2, .int (iI 0)])), (a1, .inl (τ 0, 6, .inl (ar (fun _ => 0)))), (a2, .inl (τ 0, 6, .inl (ar (fun _ => 0))))]) hx hb hC hw 0 rfl (Nat.le_of_ble_eq_true rfl) rfl dX3_init_22 (fun H locs hw => ?_)
  exact r_vret hx hb hr hlk hw [(h4, .inr (4, [.ref a1, .ref a2, .int (iI 0)])), (a1, .inl (τ 0, 6, .inl (ar (fun _ => 0)))), (a2, .inl (τ 0, 6, .inl (ar (fun _ => 0))))] [0, 1, 2] rfl (by decide) ⟨a1, a2, trivial, rfl⟩ dX3_init_25
abbrev W_c_Read_init (τ : Nat → ClassId) (h5 : Nat) : va_W := [(h5, .inr (6, [.null, .int (iI 0), .int (iI 0), .int (iI 0)]))]
abbrev E_c_Read_init (τ : Nat → ClassId) (h5 : Nat) : va_W → Prop := fun w => ∃ (rw5 : Nat), (True) ∧ w = [(h5, .inr (6, [.ref rw5, .int (iI 0), .int (iI 0), .int (iI 1)])), (rw5, .inl (τ 0, 40, .inl (ar (fun _ => 0))))]
set_option maxHeartbeats 4000000 in
set_option maxRecDepth 100000 in
theorem c_Read_init (l : Launch) (D : va_G) (τ : Nat → ClassId) (sz : Nat) (h5 : Nat)  : Met l yX5_init (lw_w yX5_init cX5_init 1 none) (rmk 1 1 40) (gPc D τ (W_c_Read_init τ h5) sz [.ref h5]) (gQv D (E_c_Read_init τ h5) (va_A (W_c_Read_init τ h5) sz)) 1 40 (va_A (W_c_Read_init τ h5) sz) := by
  refine g_met (ret := none) (Qc := gQv D (E_c_Read_init τ h5)) (by decide +kernel) (Nat.le_of_ble_eq_true rfl) ?_
  intro p e s m args below meth c A ls hx hb hml hr hlk hnm hC hA hw hl
  have hC : cx D τ s m args RX5 := hC
  have hl : lv_has ls 1 [(0, .ref h5)] := hl
  have hw : wS D A s.heap [(h5, .inr (6, [.null, .int (iI 0), .int (iI 0), .int (iI 0)]))] s.heap [] := hw
  refine lv_aload_n hx hb dX5_init_0 rfl (lv_at hl 0 rfl) ?_
  refine r_objInit hx hb hml hC hl.1 ml_X5_3 im_init cd_init (by decide) (Nat.le_of_ble_eq_true rfl) (by decide) dX5_init_1 ?_
  refine lv_aload_n hx hb dX5_init_4 rfl (lv_at hl 0 rfl) ?_
  refine r_bipush hx hb dX5_init_5 (by decide +kernel) ?_
  refine r_newi (N := 40) hx hb hC hA hw ac_int (by decide) (by decide) (by decide) (by decide) rfl rfl dX5_init_7 (fun a1 H hw => ?_)
  have hw : wS D A s.heap [(h5, .inr (6, [.null, .int (iI 0), .int (iI 0), .int (iI 0)])), (a1, .inl (τ 0, 40, .inl (ar (fun _ => 0))))] H _ := hw
  refine pf_X5_9 (ws' := [(h5, .inr (6, [.ref a1, .int (iI 0), .int (iI 0), .int (iI 0)])), (a1, .inl (τ 0, 40, .inl (ar (fun _ => 0))))]) hx hb hC hw hnm 0 rfl (Nat.le_of_ble_eq_true rfl) rfl dX5_init_9 (fun H locs hw => ?_)
  refine lv_aload_n hx hb dX5_init_12 rfl (lv_at hl 0 rfl) ?_
  refine r_iconst hx hb dX5_init_13 ?_
  refine pf_X5_15 (ws' := [(h5, .inr (6, [.ref a1, .int (iI 0), .int (iI 0), .int (iI 0)])), (a1, .inl (τ 0, 40, .inl (ar (fun _ => 0))))]) hx hb hC hw 0 rfl (Nat.le_of_ble_eq_true rfl) rfl dX5_init_14 (fun H locs hw => ?_)
  refine lv_aload_n hx hb dX5_init_17 rfl (lv_at hl 0 rfl) ?_
  refine r_iconst hx hb dX5_init_18 ?_
  refine pf_X5_19 (ws' := [(h5, .inr (6, [.ref a1, .int (iI 0), .int (iI 0), .int (iI 0)])), (a1, .inl (τ 0, 40, .inl (ar (fun _ => 0))))]) hx hb hC hw 0 rfl (Nat.le_of_ble_eq_true rfl) rfl dX5_init_19 (fun H locs hw => ?_)
  refine lv_aload_n hx hb dX5_init_22 rfl (lv_at hl 0 rfl) ?_
  refine r_iconst hx hb dX5_init_23 ?_
  refine pf_X5_22 (ws' := [(h5, .inr (6, [.ref a1, .int (iI 0), .int (iI 0), .int (iI 1)])), (a1, .inl (τ 0, 40, .inl (ar (fun _ => 0))))]) hx hb hC hw 0 (by decide) rfl (Nat.le_of_ble_eq_true rfl) rfl dX5_init_24 (fun H locs hw => ?_)
  exact r_vret hx hb hr hlk hw [(h5, .inr (6, [.ref a1, .int (iI 0), .int (iI 0), .int (iI 1)])), (a1, .inl (τ 0, 40, .inl (ar (fun _ => 0))))] [0, 1] rfl (by decide) ⟨a1, trivial, rfl⟩ dX5_init_27
abbrev W_c_Walk_init (τ : Nat → ClassId) (h6 : Nat) (h8 : Nat) : va_W := [(h6, .inr (11, [.null, .null, .null, .int (iI 0), .int (iI 0), .int (iI 0)]))]
abbrev E_c_Walk_init (τ : Nat → ClassId) (h6 : Nat) (h8 : Nat) : va_W → Prop := fun w => ∃ (ww6 : Nat), ∃ (wt6 : Nat), (True) ∧ w = [(h6, .inr (11, [.ref h8, .ref ww6, .ref wt6, .int (iI 0), .int (iI 0), .int (iI 0)])), (ww6, .inl (τ 0, 30, .inl (ar (fun _ => 0)))), (wt6, .inl (τ 0, 8, .inl (ar (fun _ => 0))))]
set_option maxHeartbeats 4000000 in
set_option maxRecDepth 100000 in
theorem c_Walk_init (l : Launch) (D : va_G) (τ : Nat → ClassId) (sz : Nat) (h6 : Nat) (h8 : Nat)  : Met l yX10_init (lw_w yX10_init cX10_init 2 none) (rmk 1 2 38) (gPc D τ (W_c_Walk_init τ h6 h8) sz [.ref h6, .ref h8]) (gQv D (E_c_Walk_init τ h6 h8) (va_A (W_c_Walk_init τ h6 h8) sz)) 2 38 (va_A (W_c_Walk_init τ h6 h8) sz) := by
  refine g_met (ret := none) (Qc := gQv D (E_c_Walk_init τ h6 h8)) (by decide +kernel) (Nat.le_of_ble_eq_true rfl) ?_
  intro p e s m args below meth c A ls hx hb hml hr hlk hnm hC hA hw hl
  have hC : cx D τ s m args RX10 := hC
  have hl : lv_has ls 2 [(0, .ref h6), (1, .ref h8)] := hl
  have hw : wS D A s.heap [(h6, .inr (11, [.null, .null, .null, .int (iI 0), .int (iI 0), .int (iI 0)]))] s.heap [] := hw
  refine lv_aload_n hx hb dX10_init_0 rfl (lv_at hl 0 rfl) ?_
  refine r_objInit hx hb hml hC hl.1 ml_X10_3 im_init cd_init (by decide) (Nat.le_of_ble_eq_true rfl) (by decide) dX10_init_1 ?_
  refine lv_aload_n hx hb dX10_init_4 rfl (lv_at hl 0 rfl) ?_
  refine r_bipush hx hb dX10_init_5 (by decide +kernel) ?_
  refine r_newi (N := 30) hx hb hC hA hw ac_int (by decide) (by decide) (by decide) (by decide) rfl rfl dX10_init_7 (fun a1 H hw => ?_)
  have hw : wS D A s.heap [(h6, .inr (11, [.null, .null, .null, .int (iI 0), .int (iI 0), .int (iI 0)])), (a1, .inl (τ 0, 30, .inl (ar (fun _ => 0))))] H _ := hw
  refine pf_X10_9 (ws' := [(h6, .inr (11, [.null, .ref a1, .null, .int (iI 0), .int (iI 0), .int (iI 0)])), (a1, .inl (τ 0, 30, .inl (ar (fun _ => 0))))]) hx hb hC hw hnm 0 rfl (Nat.le_of_ble_eq_true rfl) rfl dX10_init_9 (fun H locs hw => ?_)
  refine lv_aload_n hx hb dX10_init_12 rfl (lv_at hl 0 rfl) ?_
  refine r_bipush hx hb dX10_init_13 (by decide +kernel) ?_
  refine r_newi (N := 8) hx hb hC hA hw ac_int (by decide) (by decide) (by decide) (by decide) rfl rfl dX10_init_15 (fun a2 H hw => ?_)
  have hw : wS D A s.heap [(h6, .inr (11, [.null, .ref a1, .null, .int (iI 0), .int (iI 0), .int (iI 0)])), (a1, .inl (τ 0, 30, .inl (ar (fun _ => 0)))), (a2, .inl (τ 0, 8, .inl (ar (fun _ => 0))))] H _ := hw
  refine pf_X10_15 (ws' := [(h6, .inr (11, [.null, .ref a1, .ref a2, .int (iI 0), .int (iI 0), .int (iI 0)])), (a1, .inl (τ 0, 30, .inl (ar (fun _ => 0)))), (a2, .inl (τ 0, 8, .inl (ar (fun _ => 0))))]) hx hb hC hw hnm 0 rfl (Nat.le_of_ble_eq_true rfl) rfl dX10_init_17 (fun H locs hw => ?_)
  refine lv_aload_n hx hb dX10_init_20 rfl (lv_at hl 0 rfl) ?_
  refine r_iconst hx hb dX10_init_21 ?_
  refine pf_X10_18 (ws' := [(h6, .inr (11, [.null, .ref a1, .ref a2, .int (iI 0), .int (iI 0), .int (iI 0)])), (a1, .inl (τ 0, 30, .inl (ar (fun _ => 0)))), (a2, .inl (τ 0, 8, .inl (ar (fun _ => 0))))]) hx hb hC hw 0 rfl (Nat.le_of_ble_eq_true rfl) rfl dX10_init_22 (fun H locs hw => ?_)
  refine lv_aload_n hx hb dX10_init_25 rfl (lv_at hl 0 rfl) ?_
  refine r_iconst hx hb dX10_init_26 ?_
  refine pf_X10_22 (ws' := [(h6, .inr (11, [.null, .ref a1, .ref a2, .int (iI 0), .int (iI 0), .int (iI 0)])), (a1, .inl (τ 0, 30, .inl (ar (fun _ => 0)))), (a2, .inl (τ 0, 8, .inl (ar (fun _ => 0))))]) hx hb hC hw 0 rfl (Nat.le_of_ble_eq_true rfl) rfl dX10_init_27 (fun H locs hw => ?_)
  refine lv_aload_n hx hb dX10_init_30 rfl (lv_at hl 0 rfl) ?_
  refine r_iconst hx hb dX10_init_31 ?_
  refine pf_X10_25 (ws' := [(h6, .inr (11, [.null, .ref a1, .ref a2, .int (iI 0), .int (iI 0), .int (iI 0)])), (a1, .inl (τ 0, 30, .inl (ar (fun _ => 0)))), (a2, .inl (τ 0, 8, .inl (ar (fun _ => 0))))]) hx hb hC hw 0 (by decide) rfl (Nat.le_of_ble_eq_true rfl) rfl dX10_init_32 (fun H locs hw => ?_)
  refine lv_aload_n hx hb dX10_init_35 rfl (lv_at hl 0 rfl) ?_
  refine lv_aload_n hx hb dX10_init_36 rfl (lv_at hl 1 rfl) ?_
  refine pf_X10_29 (ws' := [(h6, .inr (11, [.ref h8, .ref a1, .ref a2, .int (iI 0), .int (iI 0), .int (iI 0)])), (a1, .inl (τ 0, 30, .inl (ar (fun _ => 0)))), (a2, .inl (τ 0, 8, .inl (ar (fun _ => 0))))]) hx hb hC hw hnm 0 rfl (Nat.le_of_ble_eq_true rfl) rfl dX10_init_37 (fun H locs hw => ?_)
  exact r_vret hx hb hr hlk hw [(h6, .inr (11, [.ref h8, .ref a1, .ref a2, .int (iI 0), .int (iI 0), .int (iI 0)])), (a1, .inl (τ 0, 30, .inl (ar (fun _ => 0)))), (a2, .inl (τ 0, 8, .inl (ar (fun _ => 0))))] [0, 1, 2] rfl (by decide) ⟨a1, a2, trivial, rfl⟩ dX10_init_40
