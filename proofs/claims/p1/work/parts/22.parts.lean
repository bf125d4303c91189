abbrev W_c_Law_init (τ : Nat → ClassId) (h2 : Nat) : va_W := [(h2, .inr (3, [.null, .null, .null, .null, .int (iI 0), .int (iI 0)]))]
abbrev E_c_Law_init (τ : Nat → ClassId) (h2 : Nat) : va_W → Prop := fun w => ∃ (ka2 : Nat), ∃ (va2 : Nat), ∃ (sa2 : Nat), ∃ (ga2 : Nat), (True) ∧ w = [(h2, .inr (3, [.ref ka2, .ref va2, .ref sa2, .ref ga2, .int (iI 0), .int (iI 0)])), (ka2, .inl (τ 0, 40, .inl (ar (fun _ => 0)))), (va2, .inl (τ 0, 40, .inl (ar (fun _ => 0)))), (sa2, .inl (τ 0, 40, .inl (ar (fun _ => 0)))), (ga2, .inl (τ 0, 7, .inl (ar (fun _ => 0))))]
set_option maxHeartbeats 4000000 in
set_option maxRecDepth 100000 in
theorem c_Law_init (l : Launch) (D : va_G) (τ : Nat → ClassId) (sz : Nat) (h2 : Nat)  : Met l yX2_init (lw_w yX2_init cX2_init 1 none) (rmk 1 4 127) (gPc D τ (W_c_Law_init τ h2) sz [.ref h2]) (gQv D (E_c_Law_init τ h2) (va_A (W_c_Law_init τ h2) sz)) 4 127 (va_A (W_c_Law_init τ h2) sz) := by
  refine g_met (ret := none) (Qc := gQv D (E_c_Law_init τ h2)) (by decide +kernel) (Nat.le_of_ble_eq_true rfl) ?_
  intro p e s m args below meth c A ls hx hb hml hr hlk hnm hC hA hw hl
  have hC : cx D τ s m args RX2 := hC
  have hl : lv_has ls 1 [(0, .ref h2)] := hl
  have hw : wS D A s.heap [(h2, .inr (3, [.null, .null, .null, .null, .int (iI 0), .int (iI 0)]))] s.heap [] := hw
  refine lv_aload_n hx hb dX2_init_0 rfl (lv_at hl 0 rfl) ?_
  refine r_objInit hx hb hml hC hl.1 ml_X2_3 im_init cd_init (by decide) (Nat.le_of_ble_eq_true rfl) (by decide) dX2_init_1 ?_
  refine lv_aload_n hx hb dX2_init_4 rfl (lv_at hl 0 rfl) ?_
  refine r_bipush hx hb dX2_init_5 (by decide +kernel) ?_
  refine r_newi (N := 40) hx hb hC hA hw ac_int (by decide) (by decide) (by decide) (by decide) rfl rfl dX2_init_7 (fun a1 H hw => ?_)
  have hw : wS D A s.heap [(h2, .inr (3, [.null, .null, .null, .null, .int (iI 0), .int (iI 0)])), (a1, .inl (τ 0, 40, .inl (ar (fun _ => 0))))] H _ := hw
  refine pf_X2_9 (ws' := [(h2, .inr (3, [.ref a1, .null, .null, .null, .int (iI 0), .int (iI 0)])), (a1, .inl (τ 0, 40, .inl (ar (fun _ => 0))))]) hx hb hC hw hnm 0 rfl (Nat.le_of_ble_eq_true rfl) rfl dX2_init_9 (fun H locs hw => ?_)
  refine lv_aload_n hx hb dX2_init_12 rfl (lv_at hl 0 rfl) ?_
  refine r_bipush hx hb dX2_init_13 (by decide +kernel) ?_
  refine r_newi (N := 40) hx hb hC hA hw ac_int (by decide) (by decide) (by decide) (by decide) rfl rfl dX2_init_15 (fun a2 H hw => ?_)
  have hw : wS D A s.heap [(h2, .inr (3, [.ref a1, .null, .null, .null, .int (iI 0), .int (iI 0)])), (a1, .inl (τ 0, 40, .inl (ar (fun _ => 0)))), (a2, .inl (τ 0, 40, .inl (ar (fun _ => 0))))] H _ := hw
  refine pf_X2_15 (ws' := [(h2, .inr (3, [.ref a1, .ref a2, .null, .null, .int (iI 0), .int (iI 0)])), (a1, .inl (τ 0, 40, .inl (ar (fun _ => 0)))), (a2, .inl (τ 0, 40, .inl (ar (fun _ => 0))))]) hx hb hC hw hnm 0 rfl (Nat.le_of_ble_eq_true rfl) rfl dX2_init_17 (fun H locs hw => ?_)
  refine lv_aload_n hx hb dX2_init_20 rfl (lv_at hl 0 rfl) ?_
  refine r_bipush hx hb dX2_init_21 (by decide +kernel) ?_
  refine r_newi (N := 40) hx hb hC hA hw ac_int (by decide) (by decide) (by decide) (by decide) rfl rfl dX2_init_23 (fun a3 H hw => ?_)
  have hw : wS D A s.heap [(h2, .inr (3, [.ref a1, .ref a2, .null, .null, .int (iI 0), .int (iI 0)])), (a1, .inl (τ 0, 40, .inl (ar (fun _ => 0)))), (a2, .inl (τ 0, 40, .inl (ar (fun _ => 0)))), (a3, .inl (τ 0, 40, .inl (ar (fun _ => 0))))] H _ := hw
  refine pf_X2_18 (ws' := [(h2, .inr (3, [.ref a1, .ref a2, .ref a3, .null, .int (iI 0), .int (iI 0)])), (a1, .inl (τ 0, 40, .inl (ar (fun _ => 0)))), (a2, .inl (τ 0, 40, .inl (ar (fun _ => 0)))), (a3, .inl (τ 0, 40, .inl (ar (fun _ => 0))))]) hx hb hC hw hnm 0 rfl (Nat.le_of_ble_eq_true rfl) rfl dX2_init_25 (fun H locs hw => ?_)
  refine lv_aload_n hx hb dX2_init_28 rfl (lv_at hl 0 rfl) ?_
  refine r_bipush hx hb dX2_init_29 (by decide +kernel) ?_
  refine r_newi (N := 7) hx hb hC hA hw ac_int (by decide) (by decide) (by decide) (by decide) rfl rfl dX2_init_31 (fun a4 H hw => ?_)
  have hw : wS D A s.heap [(h2, .inr (3, [.ref a1, .ref a2, .ref a3, .null, .int (iI 0), .int (iI 0)])), (a1, .inl (τ 0, 40, .inl (ar (fun _ => 0)))), (a2, .inl (τ 0, 40, .inl (ar (fun _ => 0)))), (a3, .inl (τ 0, 40, .inl (ar (fun _ => 0)))), (a4, .inl (τ 0, 7, .inl (ar (fun _ => 0))))] H _ := hw
  refine pf_X2_21 (ws' := [(h2, .inr (3, [.ref a1, .ref a2, .ref a3, .ref a4, .int (iI 0), .int (iI 0)])), (a1, .inl (τ 0, 40, .inl (ar (fun _ => 0)))), (a2, .inl (τ 0, 40, .inl (ar (fun _ => 0)))), (a3, .inl (τ 0, 40, .inl (ar (fun _ => 0)))), (a4, .inl (τ 0, 7, .inl (ar (fun _ => 0))))]) hx hb hC hw hnm 0 rfl (Nat.le_of_ble_eq_true rfl) rfl dX2_init_33 (fun H locs hw => ?_)
  refine lv_aload_n hx hb dX2_init_36 rfl (lv_at hl 0 rfl) ?_
  refine r_iconst hx hb dX2_init_37 ?_
  refine pf_X2_24 (ws' := [(h2, .inr (3, [.ref a1, .ref a2, .ref a3, .ref a4, .int (iI 0), .int (iI 0)])), (a1, .inl (τ 0, 40, .inl (ar (fun _ => 0)))), (a2, .inl (τ 0, 40, .inl (ar (fun _ => 0)))), (a3, .inl (τ 0, 40, .inl (ar (fun _ => 0)))), (a4, .inl (τ 0, 7, .inl (ar (fun _ => 0))))]) hx hb hC hw 0 rfl (Nat.le_of_ble_eq_true rfl) rfl dX2_init_38 (fun H locs hw => ?_)
  refine lv_aload_n hx hb dX2_init_41 rfl (lv_at hl 0 rfl) ?_
  refine r_iconst hx hb dX2_init_42 ?_
  refine pf_X2_28 (ws' := [(h2, .inr (3, [.ref a1, .ref a2, .ref a3, .ref a4, .int (iI 0), .int (iI 0)])), (a1, .inl (τ 0, 40, .inl (ar (fun _ => 0)))), (a2, .inl (τ 0, 40, .inl (ar (fun _ => 0)))), (a3, .inl (τ 0, 40, .inl (ar (fun _ => 0)))), (a4, .inl (τ 0, 7, .inl (ar (fun _ => 0))))]) hx hb hC hw 0 rfl (Nat.le_of_ble_eq_true rfl) rfl dX2_init_43 (fun H locs hw => ?_)
  exact r_vret hx hb hr hlk hw [(h2, .inr (3, [.ref a1, .ref a2, .ref a3, .ref a4, .int (iI 0), .int (iI 0)])), (a1, .inl (τ 0, 40, .inl (ar (fun _ => 0)))), (a2, .inl (τ 0, 40, .inl (ar (fun _ => 0)))), (a3, .inl (τ 0, 40, .inl (ar (fun _ => 0)))), (a4, .inl (τ 0, 7, .inl (ar (fun _ => 0))))] [0, 1, 2, 3, 4] rfl (by decide) ⟨a1, a2, a3, a4, trivial, rfl⟩ dX2_init_46
abbrev W_c_Law_clear (τ : Nat → ClassId) (h2 : Nat) (ka2 : Nat) (va2 : Nat) (sa2 : Nat) (ga2 : Nat) (siz2 : Int) (let2 : Int) : va_W := [(h2, .inr (3, [.ref ka2, .ref va2, .ref sa2, .ref ga2, .int (iI siz2), .int (iI let2)]))]
abbrev E_c_Law_clear (τ : Nat → ClassId) (h2 : Nat) (ka2 : Nat) (va2 : Nat) (sa2 : Nat) (ga2 : Nat) (siz2 : Int) (let2 : Int) : va_W → Prop := fun w => (True) ∧ w = [(h2, .inr (3, [.ref ka2, .ref va2, .ref sa2, .ref ga2, .int (iI 0), .int (iI 0)]))]
set_option maxHeartbeats 4000000 in
set_option maxRecDepth 100000 in
theorem c_Law_clear (l : Launch) (D : va_G) (τ : Nat → ClassId) (sz : Nat) (h2 : Nat) (ka2 : Nat) (va2 : Nat) (sa2 : Nat) (ga2 : Nat) (siz2 : Int) (let2 : Int)  : Met l yX2_clear (lw_w yX2_clear cX2_clear 1 none) (rmk 1 0 0) (gPc D τ (W_c_Law_clear τ h2 ka2 va2 sa2 ga2 siz2 let2) sz [.ref h2]) (gQv D (E_c_Law_clear τ h2 ka2 va2 sa2 ga2 siz2 let2) (va_A (W_c_Law_clear τ h2 ka2 va2 sa2 ga2 siz2 let2) sz)) 0 0 (va_A (W_c_Law_clear τ h2 ka2 va2 sa2 ga2 siz2 let2) sz) := by
  refine g_met (ret := none) (Qc := gQv D (E_c_Law_clear τ h2 ka2 va2 sa2 ga2 siz2 let2)) (by decide +kernel) (Nat.le_of_ble_eq_true rfl) ?_
  intro p e s m args below meth c A ls hx hb hml hr hlk hnm hC hA hw hl
  have hC : cx D τ s m args RX2 := hC
  have hl : lv_has ls 1 [(0, .ref h2)] := hl
  have hw : wS D A s.heap [(h2, .inr (3, [.ref ka2, .ref va2, .ref sa2, .ref ga2, .int (iI siz2), .int (iI let2)]))] s.heap [] := hw
  refine lv_aload_n hx hb dX2_clear_0 rfl (lv_at hl 0 rfl) ?_
  refine r_iconst hx hb dX2_clear_1 ?_
  refine pf_X2_24 (ws' := [(h2, .inr (3, [.ref ka2, .ref va2, .ref sa2, .ref ga2, .int (iI 0), .int (iI let2)]))]) hx hb hC hw 0 rfl (Nat.le_of_ble_eq_true rfl) rfl dX2_clear_2 (fun H locs hw => ?_)
  refine lv_aload_n hx hb dX2_clear_5 rfl (lv_at hl 0 rfl) ?_
  refine r_iconst hx hb dX2_clear_6 ?_
  refine pf_X2_28 (ws' := [(h2, .inr (3, [.ref ka2, .ref va2, .ref sa2, .ref ga2, .int (iI 0), .int (iI 0)]))]) hx hb hC hw 0 rfl (Nat.le_of_ble_eq_true rfl) rfl dX2_clear_7 (fun H locs hw => ?_)
  exact r_vret hx hb hr hlk hw [(h2, .inr (3, [.ref ka2, .ref va2, .ref sa2, .ref ga2, .int (iI 0), .int (iI 0)]))] [0] rfl (by decide) ⟨trivial, rfl⟩ dX2_clear_10
abbrev W_c_Law_add (τ : Nat → ClassId) (h2 : Nat) (ka2 : Nat) (va2 : Nat) (sa2 : Nat) (ga2 : Nat) (siz2 : Int) (let2 : Int) (kn2 : Int → Int) (vn2 : Int → Int) (v : Int) (v2 : Int) : va_W := [(h2, .inr (3, [.ref ka2, .ref va2, .ref sa2, .ref ga2, .int (iI siz2), .int (iI let2)])), (ka2, .inl (τ 0, 40, .inl (ar kn2))), (va2, .inl (τ 0, 40, .inl (ar vn2)))]
abbrev E_c_Law_add (τ : Nat → ClassId) (h2 : Nat) (ka2 : Nat) (va2 : Nat) (sa2 : Nat) (ga2 : Nat) (siz2 : Int) (let2 : Int) (kn2 : Int → Int) (vn2 : Int → Int) (v : Int) (v2 : Int) : va_W → Prop := fun w => ∃ (siz3 : Int), ∃ (kn3 : Int → Int), ∃ (vn3 : Int → Int), ((siz2 < 40 ∧ siz3 = siz2 + 1) ∨ (siz2 = 40 ∧ siz3 = siz2)) ∧ w = [(h2, .inr (3, [.ref ka2, .ref va2, .ref sa2, .ref ga2, .int (iI siz3), .int (iI let2)])), (ka2, .inl (τ 0, 40, .inl (ar kn3))), (va2, .inl (τ 0, 40, .inl (ar vn3)))]
set_option maxHeartbeats 4000000 in
set_option maxRecDepth 100000 in
theorem c_Law_add (l : Launch) (D : va_G) (τ : Nat → ClassId) (sz : Nat) (h2 : Nat) (ka2 : Nat) (va2 : Nat) (sa2 : Nat) (ga2 : Nat) (siz2 : Int) (let2 : Int) (kn2 : Int → Int) (vn2 : Int → Int) (v : Int) (v2 : Int) (hp0 : 0 ≤ siz2 ∧ siz2 ≤ 40) : Met l yX2_add (lw_w yX2_add cX2_add 3 none) (rmk 1 0 0) (gPc D τ (W_c_Law_add τ h2 ka2 va2 sa2 ga2 siz2 let2 kn2 vn2 v v2) sz [.ref h2, .int (iI v), .int (iI v2)]) (gQv D (E_c_Law_add τ h2 ka2 va2 sa2 ga2 siz2 let2 kn2 vn2 v v2) (va_A (W_c_Law_add τ h2 ka2 va2 sa2 ga2 siz2 let2 kn2 vn2 v v2) sz)) 0 0 (va_A (W_c_Law_add τ h2 ka2 va2 sa2 ga2 siz2 let2 kn2 vn2 v v2) sz) := by
  refine g_met (ret := none) (Qc := gQv D (E_c_Law_add τ h2 ka2 va2 sa2 ga2 siz2 let2 kn2 vn2 v v2)) (by decide +kernel) (Nat.le_of_ble_eq_true rfl) ?_
  intro p e s m args below meth c A ls hx hb hml hr hlk hnm hC hA hw hl
  have hC : cx D τ s m args RX2 := hC
  have hl : lv_has ls 3 [(0, .ref h2), (1, .int (iI v)), (2, .int (iI v2))] := hl
  have hw : wS D A s.heap [(h2, .inr (3, [.ref ka2, .ref va2, .ref sa2, .ref ga2, .int (iI siz2), .int (iI let2)])), (ka2, .inl (τ 0, 40, .inl (ar kn2))), (va2, .inl (τ 0, 40, .inl (ar vn2)))] s.heap [] := hw
  refine lv_aload_n hx hb dX2_add_0 rfl (lv_at hl 0 rfl) ?_
  refine gf_X2_24 hx hb hC hw 0 rfl rfl dX2_add_1 ?_
  refine r_bipush hx hb dX2_add_4 (by decide +kernel) ?_
  refine r_icmp_ge (tgt := 39) hx hb dX2_add_6 (by decide) (by omega) (by decide) (fun hbr1 => ?_) (fun hbr1 => ?_)
  · skip
    exact r_vret hx hb hr hlk hw [(h2, .inr (3, [.ref ka2, .ref va2, .ref sa2, .ref ga2, .int (iI siz2), .int (iI let2)])), (ka2, .inl (τ 0, 40, .inl (ar kn2))), (va2, .inl (τ 0, 40, .inl (ar vn2)))] [0, 1, 2] rfl (by decide) ⟨siz2, kn2, vn2, (by omega), rfl⟩ dX2_add_39
  · skip
    refine lv_aload_n hx hb dX2_add_9 rfl (lv_at hl 0 rfl) ?_
    refine gf_X2_9 hx hb hC hw 0 rfl rfl dX2_add_10 ?_
    refine lv_aload_n hx hb dX2_add_13 rfl (lv_at hl 0 rfl) ?_
    refine gf_X2_24 hx hb hC hw 0 rfl rfl dX2_add_14 ?_
    refine lv_iload_n hx hb dX2_add_17 rfl (lv_at hl 1 rfl) ?_
    refine r_iast (ws' := [(h2, .inr (3, [.ref ka2, .ref va2, .ref sa2, .ref ga2, .int (iI siz2), .int (iI let2)])), (ka2, .inl (τ 0, 40, .inl (ar (up kn2 siz2 v)))), (va2, .inl (τ 0, 40, .inl (ar vn2)))]) hx hb hC hw 1 rfl (by omega) (by omega) (by decide) rfl dX2_add_18 (fun H locs hw => ?_)
    refine lv_aload_n hx hb dX2_add_19 rfl (lv_at hl 0 rfl) ?_
    refine gf_X2_15 hx hb hC hw 0 rfl rfl dX2_add_20 ?_
    refine lv_aload_n hx hb dX2_add_23 rfl (lv_at hl 0 rfl) ?_
    refine gf_X2_24 hx hb hC hw 0 rfl rfl dX2_add_24 ?_
    refine lv_iload_n hx hb dX2_add_27 rfl (lv_at hl 2 rfl) ?_
    refine r_iast (ws' := [(h2, .inr (3, [.ref ka2, .ref va2, .ref sa2, .ref ga2, .int (iI siz2), .int (iI let2)])), (ka2, .inl (τ 0, 40, .inl (ar (up kn2 siz2 v)))), (va2, .inl (τ 0, 40, .inl (ar (up vn2 siz2 v2))))]) hx hb hC hw 2 rfl (by omega) (by omega) (by decide) rfl dX2_add_28 (fun H locs hw => ?_)
    refine lv_aload_n hx hb dX2_add_29 rfl (lv_at hl 0 rfl) ?_
    refine lv_dup hx hb dX2_add_30 rfl ?_
    refine gf_X2_24 hx hb hC hw 0 rfl rfl dX2_add_31 ?_
    refine r_iconst hx hb dX2_add_34 ?_
    refine r_iadd (z := (siz2 + 1)) hx hb dX2_add_35 (by omega) ?_
    refine pf_X2_24 (ws' := [(h2, .inr (3, [.ref ka2, .ref va2, .ref sa2, .ref ga2, .int (iI (siz2 + 1)), .int (iI let2)])), (ka2, .inl (τ 0, 40, .inl (ar (up kn2 siz2 v)))), (va2, .inl (τ 0, 40, .inl (ar (up vn2 siz2 v2))))]) hx hb hC hw 0 rfl (Nat.le_of_ble_eq_true rfl) rfl dX2_add_36 (fun H locs hw => ?_)
    exact r_vret hx hb hr hlk hw [(h2, .inr (3, [.ref ka2, .ref va2, .ref sa2, .ref ga2, .int (iI (siz2 + 1)), .int (iI let2)])), (ka2, .inl (τ 0, 40, .inl (ar (up kn2 siz2 v)))), (va2, .inl (τ 0, 40, .inl (ar (up vn2 siz2 v2))))] [0, 1, 2] rfl (by decide) ⟨(siz2 + 1), (up kn2 siz2 v), (up vn2 siz2 v2), (by omega), rfl⟩ dX2_add_39
abbrev W_c_Law_addLetter1 (τ : Nat → ClassId) (h2 : Nat) (ka2 : Nat) (va2 : Nat) (sa2 : Nat) (ga2 : Nat) (siz2 : Int) (kn2 : Int → Int) (vn2 : Int → Int) : va_W := [(h2, .inr (3, [.ref ka2, .ref va2, .ref sa2, .ref ga2, .int (iI siz2), .int (iI 0)])), (ka2, .inl (τ 0, 40, .inl (ar kn2))), (va2, .inl (τ 0, 40, .inl (ar vn2)))]
abbrev E_c_Law_addLetter1 (τ : Nat → ClassId) (h2 : Nat) (ka2 : Nat) (va2 : Nat) (sa2 : Nat) (ga2 : Nat) (siz2 : Int) (kn2 : Int → Int) (vn2 : Int → Int) : va_W → Prop := fun w => ∃ (siz3 : Int), ∃ (kn3 : Int → Int), ∃ (vn3 : Int → Int), (siz3 = siz2 + 1) ∧ w = [(h2, .inr (3, [.ref ka2, .ref va2, .ref sa2, .ref ga2, .int (iI siz3), .int (iI 2)])), (ka2, .inl (τ 0, 40, .inl (ar kn3))), (va2, .inl (τ 0, 40, .inl (ar vn3)))]
set_option maxHeartbeats 4000000 in
set_option maxRecDepth 100000 in
theorem c_Law_addLetter1 (l : Launch) (D : va_G) (τ : Nat → ClassId) (sz : Nat) (h2 : Nat) (ka2 : Nat) (va2 : Nat) (sa2 : Nat) (ga2 : Nat) (siz2 : Int) (kn2 : Int → Int) (vn2 : Int → Int) (hp0 : 0 ≤ siz2 ∧ siz2 ≤ 39) : Met l yX2_addLetter (lw_w yX2_addLetter cX2_addLetter 2 none) (rmk 2 0 0) (gPc D τ (W_c_Law_addLetter1 τ h2 ka2 va2 sa2 ga2 siz2 kn2 vn2) sz [.ref h2, .int (iI 1)]) (gQv D (E_c_Law_addLetter1 τ h2 ka2 va2 sa2 ga2 siz2 kn2 vn2) (va_A (W_c_Law_addLetter1 τ h2 ka2 va2 sa2 ga2 siz2 kn2 vn2) sz)) 0 0 (va_A (W_c_Law_addLetter1 τ h2 ka2 va2 sa2 ga2 siz2 kn2 vn2) sz) := by
  refine g_met (ret := none) (Qc := gQv D (E_c_Law_addLetter1 τ h2 ka2 va2 sa2 ga2 siz2 kn2 vn2)) (by decide +kernel) (Nat.le_of_ble_eq_true rfl) ?_
  intro p e s m args below meth c A ls hx hb hml hr hlk hnm hC hA hw hl
  have hC : cx D τ s m args RX2 := hC
  have hl : lv_has ls 2 [(0, .ref h2), (1, .int (iI 1))] := hl
  have hw : wS D A s.heap [(h2, .inr (3, [.ref ka2, .ref va2, .ref sa2, .ref ga2, .int (iI siz2), .int (iI 0)])), (ka2, .inl (τ 0, 40, .inl (ar kn2))), (va2, .inl (τ 0, 40, .inl (ar vn2)))] s.heap [] := hw
  refine lv_aload_n hx hb dX2_addLetter_0 rfl (lv_at hl 0 rfl) ?_
  refine r_sipush hx hb dX2_addLetter_1 (by decide +kernel) ?_
  refine lv_iload_n hx hb dX2_addLetter_4 rfl (lv_at hl 1 rfl) ?_
  refine g_cVv (wr := []) (q0 := 0) (ci := 3) hx hb hml hC hA hw hl.1 (c_Law_add l D τ _ h2 ka2 va2 sa2 ga2 siz2 0 kn2 vn2 301 1 (by omega)) kX2_add ml_X2_34 [0, 1, 2] [] rfl rfl (by decide) (by decide) (by decide) rfl rfl rfl rfl (Nat.le_of_ble_eq_true rfl) ⟨by decide, by decide⟩ ⟨by decide, by decide⟩ rfl rfl dX2_addLetter_5 (fun w1 H locs hE1 hw => ?_)
  obtain ⟨siz3_1, kn3_1, vn3_1, hq1, rfl⟩ := hE1
  have hw : wS D A s.heap [(h2, .inr (3, [.ref ka2, .ref va2, .ref sa2, .ref ga2, .int (iI siz3_1), .int (iI 0)])), (ka2, .inl (τ 0, 40, .inl (ar kn3_1))), (va2, .inl (τ 0, 40, .inl (ar vn3_1)))] H locs := hw
  refine lv_aload_n hx hb dX2_addLetter_8 rfl (lv_at hl 0 rfl) ?_
  refine lv_dup hx hb dX2_addLetter_9 rfl ?_
  refine gf_X2_28 hx hb hC hw 0 rfl rfl dX2_addLetter_10 ?_
  refine r_iconst hx hb dX2_addLetter_13 ?_
  refine lv_iload_n hx hb dX2_addLetter_14 rfl (lv_at hl 1 rfl) ?_
  refine rc_ishl (z := 2) hx hb dX2_addLetter_15 (by decide +kernel) ?_
  refine rc_ior (z := 2) hx hb dX2_addLetter_16 (by decide +kernel) ?_
  refine pf_X2_28 (ws' := [(h2, .inr (3, [.ref ka2, .ref va2, .ref sa2, .ref ga2, .int (iI siz3_1), .int (iI 2)])), (ka2, .inl (τ 0, 40, .inl (ar kn3_1))), (va2, .inl (τ 0, 40, .inl (ar vn3_1)))]) hx hb hC hw 0 rfl (Nat.le_of_ble_eq_true rfl) rfl dX2_addLetter_17 (fun H locs hw => ?_)
  exact r_vret hx hb hr hlk hw [(h2, .inr (3, [.ref ka2, .ref va2, .ref sa2, .ref ga2, .int (iI siz3_1), .int (iI 2)])), (ka2, .inl (τ 0, 40, .inl (ar kn3_1))), (va2, .inl (τ 0, 40, .inl (ar vn3_1)))] [0, 1, 2] rfl (by decide) ⟨siz3_1, kn3_1, vn3_1, (by omega), rfl⟩ dX2_addLetter_20
abbrev W_c_Law_becomePlain (τ : Nat → ClassId) (h2 : Nat) (ka2 : Nat) (va2 : Nat) (sa2 : Nat) (ga2 : Nat) (siz2 : Int) (let2 : Int) (kn2 : Int → Int) (vn2 : Int → Int) : va_W := [(h2, .inr (3, [.ref ka2, .ref va2, .ref sa2, .ref ga2, .int (iI siz2), .int (iI let2)])), (ka2, .inl (τ 0, 40, .inl (ar kn2))), (va2, .inl (τ 0, 40, .inl (ar vn2)))]
abbrev E_c_Law_becomePlain (τ : Nat → ClassId) (h2 : Nat) (ka2 : Nat) (va2 : Nat) (sa2 : Nat) (ga2 : Nat) (siz2 : Int) (let2 : Int) (kn2 : Int → Int) (vn2 : Int → Int) : va_W → Prop := fun w => ∃ (siz3 : Int), ∃ (kn3 : Int → Int), ∃ (vn3 : Int → Int), (True) ∧ w = [(h2, .inr (3, [.ref ka2, .ref va2, .ref sa2, .ref ga2, .int (iI siz3), .int (iI 2)])), (ka2, .inl (τ 0, 40, .inl (ar kn3))), (va2, .inl (τ 0, 40, .inl (ar vn3)))]
set_option maxHeartbeats 4000000 in
set_option maxRecDepth 100000 in
theorem c_Law_becomePlain (l : Launch) (D : va_G) (τ : Nat → ClassId) (sz : Nat) (h2 : Nat) (ka2 : Nat) (va2 : Nat) (sa2 : Nat) (ga2 : Nat) (siz2 : Int) (let2 : Int) (kn2 : Int → Int) (vn2 : Int → Int)  : Met l yX2_becomePlain (lw_w yX2_becomePlain cX2_becomePlain 1 none) (rmk 3 0 0) (gPc D τ (W_c_Law_becomePlain τ h2 ka2 va2 sa2 ga2 siz2 let2 kn2 vn2) sz [.ref h2]) (gQv D (E_c_Law_becomePlain τ h2 ka2 va2 sa2 ga2 siz2 let2 kn2 vn2) (va_A (W_c_Law_becomePlain τ h2 ka2 va2 sa2 ga2 siz2 let2 kn2 vn2) sz)) 0 0 (va_A (W_c_Law_becomePlain τ h2 ka2 va2 sa2 ga2 siz2 let2 kn2 vn2) sz) := by
  refine g_met (ret := none) (Qc := gQv D (E_c_Law_becomePlain τ h2 ka2 va2 sa2 ga2 siz2 let2 kn2 vn2)) (by decide +kernel) (Nat.le_of_ble_eq_true rfl) ?_
  intro p e s m args below meth c A ls hx hb hml hr hlk hnm hC hA hw hl
  have hC : cx D τ s m args RX2 := hC
  have hl : lv_has ls 1 [(0, .ref h2)] := hl
  have hw : wS D A s.heap [(h2, .inr (3, [.ref ka2, .ref va2, .ref sa2, .ref ga2, .int (iI siz2), .int (iI let2)])), (ka2, .inl (τ 0, 40, .inl (ar kn2))), (va2, .inl (τ 0, 40, .inl (ar vn2)))] s.heap [] := hw
  refine lv_aload_n hx hb dX2_becomePlain_0 rfl (lv_at hl 0 rfl) ?_
  refine g_cVv (wr := [(ka2, .inl (τ 0, 40, .inl (ar kn2))), (va2, .inl (τ 0, 40, .inl (ar vn2)))]) (q0 := 0) (ci := 3) hx hb hml hC hA hw hl.1 (c_Law_clear l D τ _ h2 ka2 va2 sa2 ga2 siz2 let2 ) kX2_clear ml_X2_31 [0] [1, 2] rfl rfl (by decide) (by decide) (by decide) rfl rfl rfl rfl (Nat.le_of_ble_eq_true rfl) ⟨by decide, by decide⟩ ⟨by decide, by decide⟩ rfl rfl dX2_becomePlain_1 (fun w1 H locs hE1 hw => ?_)
  obtain ⟨hq1, rfl⟩ := hE1
  have hw : wS D A s.heap [(ka2, .inl (τ 0, 40, .inl (ar kn2))), (va2, .inl (τ 0, 40, .inl (ar vn2))), (h2, .inr (3, [.ref ka2, .ref va2, .ref sa2, .ref ga2, .int (iI 0), .int (iI 0)]))] H locs := hw
  refine lv_aload_n hx hb dX2_becomePlain_4 rfl (lv_at hl 0 rfl) ?_
  refine r_sipush hx hb dX2_becomePlain_5 (by decide +kernel) ?_
  refine r_iconst hx hb dX2_becomePlain_8 ?_
  refine g_cVv (wr := []) (q0 := 0) (ci := 3) hx hb hml hC hA hw hl.1 (c_Law_add l D τ _ h2 ka2 va2 sa2 ga2 0 0 kn2 vn2 300 1 (by omega)) kX2_add ml_X2_34 [2, 0, 1] [] rfl rfl (by decide) (by decide) (by decide) rfl rfl rfl rfl (Nat.le_of_ble_eq_true rfl) ⟨by decide, by decide⟩ ⟨by decide, by decide⟩ rfl rfl dX2_becomePlain_9 (fun w2 H locs hE2 hw => ?_)
  obtain ⟨siz3_2, kn3_2, vn3_2, hq2, rfl⟩ := hE2
  have hw : wS D A s.heap [(h2, .inr (3, [.ref ka2, .ref va2, .ref sa2, .ref ga2, .int (iI siz3_2), .int (iI 0)])), (ka2, .inl (τ 0, 40, .inl (ar kn3_2))), (va2, .inl (τ 0, 40, .inl (ar vn3_2)))] H locs := hw
  refine lv_aload_n hx hb dX2_becomePlain_12 rfl (lv_at hl 0 rfl) ?_
  refine r_iconst hx hb dX2_becomePlain_13 ?_
  refine g_cVv (wr := []) (q0 := 0) (ci := 3) hx hb hml hC hA hw hl.1 (c_Law_addLetter1 l D τ _ h2 ka2 va2 sa2 ga2 siz3_2 kn3_2 vn3_2 (by omega)) kX2_addLetter ml_X2_38 [0, 1, 2] [] rfl rfl (by decide) (by decide) (by decide) rfl rfl rfl rfl (Nat.le_of_ble_eq_true rfl) ⟨by decide, by decide⟩ ⟨by decide, by decide⟩ rfl rfl dX2_becomePlain_14 (fun w3 H locs hE3 hw => ?_)
  obtain ⟨siz3_3, kn3_3, vn3_3, hq3, rfl⟩ := hE3
  have hw : wS D A s.heap [(h2, .inr (3, [.ref ka2, .ref va2, .ref sa2, .ref ga2, .int (iI siz3_3), .int (iI 2)])), (ka2, .inl (τ 0, 40, .inl (ar kn3_3))), (va2, .inl (τ 0, 40, .inl (ar vn3_3)))] H locs := hw
  refine lv_aload_n hx hb dX2_becomePlain_17 rfl (lv_at hl 0 rfl) ?_
  refine r_sipush hx hb dX2_becomePlain_18 (by decide +kernel) ?_
  refine r_iconst hx hb dX2_becomePlain_21 ?_
  refine g_cVv (wr := []) (q0 := 0) (ci := 3) hx hb hml hC hA hw hl.1 (c_Law_add l D τ _ h2 ka2 va2 sa2 ga2 siz3_3 2 kn3_3 vn3_3 300 2 (by omega)) kX2_add ml_X2_34 [0, 1, 2] [] rfl rfl (by decide) (by decide) (by decide) rfl rfl rfl rfl (Nat.le_of_ble_eq_true rfl) ⟨by decide, by decide⟩ ⟨by decide, by decide⟩ rfl rfl dX2_becomePlain_22 (fun w4 H locs hE4 hw => ?_)
  obtain ⟨siz3_4, kn3_4, vn3_4, hq4, rfl⟩ := hE4
  have hw : wS D A s.heap [(h2, .inr (3, [.ref ka2, .ref va2, .ref sa2, .ref ga2, .int (iI siz3_4), .int (iI 2)])), (ka2, .inl (τ 0, 40, .inl (ar kn3_4))), (va2, .inl (τ 0, 40, .inl (ar vn3_4)))] H locs := hw
  refine lv_aload_n hx hb dX2_becomePlain_25 rfl (lv_at hl 0 rfl) ?_
  refine r_bipush hx hb dX2_becomePlain_26 (by decide +kernel) ?_
  refine r_iconst hx hb dX2_becomePlain_28 ?_
  refine g_cVv (wr := []) (q0 := 0) (ci := 3) hx hb hml hC hA hw hl.1 (c_Law_add l D τ _ h2 ka2 va2 sa2 ga2 siz3_4 2 kn3_4 vn3_4 62 0 (by omega)) kX2_add ml_X2_34 [0, 1, 2] [] rfl rfl (by decide) (by decide) (by decide) rfl rfl rfl rfl (Nat.le_of_ble_eq_true rfl) ⟨by decide, by decide⟩ ⟨by decide, by decide⟩ rfl rfl dX2_becomePlain_29 (fun w5 H locs hE5 hw => ?_)
  obtain ⟨siz3_5, kn3_5, vn3_5, hq5, rfl⟩ := hE5
  have hw : wS D A s.heap [(h2, .inr (3, [.ref ka2, .ref va2, .ref sa2, .ref ga2, .int (iI siz3_5), .int (iI 2)])), (ka2, .inl (τ 0, 40, .inl (ar kn3_5))), (va2, .inl (τ 0, 40, .inl (ar vn3_5)))] H locs := hw
  refine lv_aload_n hx hb dX2_becomePlain_32 rfl (lv_at hl 0 rfl) ?_
  refine r_bipush hx hb dX2_becomePlain_33 (by decide +kernel) ?_
  refine r_iconst hx hb dX2_becomePlain_35 ?_
  refine g_cVv (wr := []) (q0 := 0) (ci := 3) hx hb hml hC hA hw hl.1 (c_Law_add l D τ _ h2 ka2 va2 sa2 ga2 siz3_5 2 kn3_5 vn3_5 43 0 (by omega)) kX2_add ml_X2_34 [0, 1, 2] [] rfl rfl (by decide) (by decide) (by decide) rfl rfl rfl rfl (Nat.le_of_ble_eq_true rfl) ⟨by decide, by decide⟩ ⟨by decide, by decide⟩ rfl rfl dX2_becomePlain_36 (fun w6 H locs hE6 hw => ?_)
  obtain ⟨siz3_6, kn3_6, vn3_6, hq6, rfl⟩ := hE6
  have hw : wS D A s.heap [(h2, .inr (3, [.ref ka2, .ref va2, .ref sa2, .ref ga2, .int (iI siz3_6), .int (iI 2)])), (ka2, .inl (τ 0, 40, .inl (ar kn3_6))), (va2, .inl (τ 0, 40, .inl (ar vn3_6)))] H locs := hw
  exact r_vret hx hb hr hlk hw [(h2, .inr (3, [.ref ka2, .ref va2, .ref sa2, .ref ga2, .int (iI siz3_6), .int (iI 2)])), (ka2, .inl (τ 0, 40, .inl (ar kn3_6))), (va2, .inl (τ 0, 40, .inl (ar vn3_6)))] [0, 1, 2] rfl (by decide) ⟨siz3_6, kn3_6, vn3_6, trivial, rfl⟩ dX2_becomePlain_39
abbrev W_c_Law_uses4 (τ : Nat → ClassId) (h2 : Nat) (ka2 : Nat) (va2 : Nat) (sa2 : Nat) (ga2 : Nat) (siz2 : Int) : va_W := [(h2, .inr (3, [.ref ka2, .ref va2, .ref sa2, .ref ga2, .int (iI siz2), .int (iI 2)]))]
abbrev E_c_Law_uses4 (τ : Nat → ClassId) (h2 : Nat) (ka2 : Nat) (va2 : Nat) (sa2 : Nat) (ga2 : Nat) (siz2 : Int) : Int → va_W → Prop := fun z w => (z = 0) ∧ w = [(h2, .inr (3, [.ref ka2, .ref va2, .ref sa2, .ref ga2, .int (iI siz2), .int (iI 2)]))]
set_option maxHeartbeats 4000000 in
set_option maxRecDepth 100000 in
theorem c_Law_uses4 (l : Launch) (D : va_G) (τ : Nat → ClassId) (sz : Nat) (h2 : Nat) (ka2 : Nat) (va2 : Nat) (sa2 : Nat) (ga2 : Nat) (siz2 : Int)  : Met l yX2_uses (lw_w yX2_uses cX2_uses 2 (some .boolean)) (rmk 1 0 0) (gPc D τ (W_c_Law_uses4 τ h2 ka2 va2 sa2 ga2 siz2) sz [.ref h2, .int (iI 4)]) (gQi D (E_c_Law_uses4 τ h2 ka2 va2 sa2 ga2 siz2) (va_A (W_c_Law_uses4 τ h2 ka2 va2 sa2 ga2 siz2) sz)) 0 0 (va_A (W_c_Law_uses4 τ h2 ka2 va2 sa2 ga2 siz2) sz) := by
  refine g_met (ret := (some .boolean)) (Qc := gQi D (E_c_Law_uses4 τ h2 ka2 va2 sa2 ga2 siz2)) (by decide +kernel) (Nat.le_of_ble_eq_true rfl) ?_
  intro p e s m args below meth c A ls hx hb hml hr hlk hnm hC hA hw hl
  have hC : cx D τ s m args RX2 := hC
  have hl : lv_has ls 2 [(0, .ref h2), (1, .int (iI 4))] := hl
  have hw : wS D A s.heap [(h2, .inr (3, [.ref ka2, .ref va2, .ref sa2, .ref ga2, .int (iI siz2), .int (iI 2)]))] s.heap [] := hw
  refine lv_aload_n hx hb dX2_uses_0 rfl (lv_at hl 0 rfl) ?_
  refine gf_X2_28 hx hb hC hw 0 rfl rfl dX2_uses_1 ?_
  refine lv_iload_n hx hb dX2_uses_4 rfl (lv_at hl 1 rfl) ?_
  refine rc_ishr (z := 0) hx hb dX2_uses_5 (by decide +kernel) ?_
  refine r_iconst hx hb dX2_uses_6 ?_
  refine rc_iand (z := 0) hx hb dX2_uses_7 (by decide +kernel) ?_
  refine r_iconst hx hb dX2_uses_8 ?_
  refine r_icmp_ne (tgt := 16) hx hb dX2_uses_9 (by decide) (by decide) (by decide) (fun hbr1 => ?_) (fun hbr1 => (by exfalso; omega))
  refine r_iconst hx hb dX2_uses_16 ?_
  exact r_zret (z := 0) hx hb hr hlk hw [(h2, .inr (3, [.ref ka2, .ref va2, .ref sa2, .ref ga2, .int (iI siz2), .int (iI 2)]))] [0] rfl (by decide) (by decide) (by decide) ⟨(by omega), rfl⟩ dX2_uses_17
abbrev W_c_Law_uses3 (τ : Nat → ClassId) (h2 : Nat) (ka2 : Nat) (va2 : Nat) (sa2 : Nat) (ga2 : Nat) (siz2 : Int) : va_W := [(h2, .inr (3, [.ref ka2, .ref va2, .ref sa2, .ref ga2, .int (iI siz2), .int (iI 2)]))]
abbrev E_c_Law_uses3 (τ : Nat → ClassId) (h2 : Nat) (ka2 : Nat) (va2 : Nat) (sa2 : Nat) (ga2 : Nat) (siz2 : Int) : Int → va_W → Prop := fun z w => (z = 0) ∧ w = [(h2, .inr (3, [.ref ka2, .ref va2, .ref sa2, .ref ga2, .int (iI siz2), .int (iI 2)]))]
set_option maxHeartbeats 4000000 in
set_option maxRecDepth 100000 in
theorem c_Law_uses3 (l : Launch) (D : va_G) (τ : Nat → ClassId) (sz : Nat) (h2 : Nat) (ka2 : Nat) (va2 : Nat) (sa2 : Nat) (ga2 : Nat) (siz2 : Int)  : Met l yX2_uses (lw_w yX2_uses cX2_uses 2 (some .boolean)) (rmk 1 0 0) (gPc D τ (W_c_Law_uses3 τ h2 ka2 va2 sa2 ga2 siz2) sz [.ref h2, .int (iI 3)]) (gQi D (E_c_Law_uses3 τ h2 ka2 va2 sa2 ga2 siz2) (va_A (W_c_Law_uses3 τ h2 ka2 va2 sa2 ga2 siz2) sz)) 0 0 (va_A (W_c_Law_uses3 τ h2 ka2 va2 sa2 ga2 siz2) sz) := by
  refine g_met (ret := (some .boolean)) (Qc := gQi D (E_c_Law_uses3 τ h2 ka2 va2 sa2 ga2 siz2)) (by decide +kernel) (Nat.le_of_ble_eq_true rfl) ?_
  intro p e s m args below meth c A ls hx hb hml hr hlk hnm hC hA hw hl
  have hC : cx D τ s m args RX2 := hC
  have hl : lv_has ls 2 [(0, .ref h2), (1, .int (iI 3))] := hl
  have hw : wS D A s.heap [(h2, .inr (3, [.ref ka2, .ref va2, .ref sa2, .ref ga2, .int (iI siz2), .int (iI 2)]))] s.heap [] := hw
  refine lv_aload_n hx hb dX2_uses_0 rfl (lv_at hl 0 rfl) ?_
  refine gf_X2_28 hx hb hC hw 0 rfl rfl dX2_uses_1 ?_
  refine lv_iload_n hx hb dX2_uses_4 rfl (lv_at hl 1 rfl) ?_
  refine rc_ishr (z := 0) hx hb dX2_uses_5 (by decide +kernel) ?_
  refine r_iconst hx hb dX2_uses_6 ?_
  refine rc_iand (z := 0) hx hb dX2_uses_7 (by decide +kernel) ?_
  refine r_iconst hx hb dX2_uses_8 ?_
  refine r_icmp_ne (tgt := 16) hx hb dX2_uses_9 (by decide) (by decide) (by decide) (fun hbr1 => ?_) (fun hbr1 => (by exfalso; omega))
  refine r_iconst hx hb dX2_uses_16 ?_
  exact r_zret (z := 0) hx hb hr hlk hw [(h2, .inr (3, [.ref ka2, .ref va2, .ref sa2, .ref ga2, .int (iI siz2), .int (iI 2)]))] [0] rfl (by decide) (by decide) (by decide) ⟨(by omega), rfl⟩ dX2_uses_17
abbrev W_c_Law_period (τ : Nat → ClassId) (h2 : Nat) (ka2 : Nat) (va2 : Nat) (sa2 : Nat) (ga2 : Nat) (siz2 : Int) (b : Nat) : va_W := [(h2, .inr (3, [.ref ka2, .ref va2, .ref sa2, .ref ga2, .int (iI siz2), .int (iI 2)]))]
abbrev E_c_Law_period (τ : Nat → ClassId) (h2 : Nat) (ka2 : Nat) (va2 : Nat) (sa2 : Nat) (ga2 : Nat) (siz2 : Int) (b : Nat) : Int → va_W → Prop := fun z w => (z = 1) ∧ w = [(h2, .inr (3, [.ref ka2, .ref va2, .ref sa2, .ref ga2, .int (iI siz2), .int (iI 2)]))]
set_option maxHeartbeats 4000000 in
set_option maxRecDepth 100000 in
theorem c_Law_period (l : Launch) (D : va_G) (τ : Nat → ClassId) (sz : Nat) (h2 : Nat) (ka2 : Nat) (va2 : Nat) (sa2 : Nat) (ga2 : Nat) (siz2 : Int) (b : Nat)  : Met l yX2_period (lw_w yX2_period cX2_period 2 (some .int)) (rmk 2 0 0) (gPc D τ (W_c_Law_period τ h2 ka2 va2 sa2 ga2 siz2 b) sz [.ref h2, .ref b]) (gQi D (E_c_Law_period τ h2 ka2 va2 sa2 ga2 siz2 b) (va_A (W_c_Law_period τ h2 ka2 va2 sa2 ga2 siz2 b) sz)) 0 0 (va_A (W_c_Law_period τ h2 ka2 va2 sa2 ga2 siz2 b) sz) := by
  refine g_met (ret := (some .int)) (Qc := gQi D (E_c_Law_period τ h2 ka2 va2 sa2 ga2 siz2 b)) (by decide +kernel) (Nat.le_of_ble_eq_true rfl) ?_
  intro p e s m args below meth c A ls hx hb hml hr hlk hnm hC hA hw hl
  have hC : cx D τ s m args RX2 := hC
  have hl : lv_has ls 2 [(0, .ref h2), (1, .ref b)] := hl
  have hw : wS D A s.heap [(h2, .inr (3, [.ref ka2, .ref va2, .ref sa2, .ref ga2, .int (iI siz2), .int (iI 2)]))] s.heap [] := hw
  refine lv_aload_n hx hb dX2_period_0 rfl (lv_at hl 0 rfl) ?_
  refine r_iconst hx hb dX2_period_1 ?_
  refine g_cVi (wr := []) (q0 := 0) (ci := 3) hx hb hml hC hA hw hl.1 (c_Law_uses4 l D τ _ h2 ka2 va2 sa2 ga2 siz2 ) kX2_uses ml_X2_42 [0] [] rfl rfl (by decide) (by decide) (by decide) rfl rfl rfl rfl (Nat.le_of_ble_eq_true rfl) ⟨by decide, by decide⟩ ⟨by decide, by decide⟩ rfl rfl dX2_period_2 (fun z1 w1 H locs hz1 hE1 hw => ?_)
  obtain ⟨hq1, rfl⟩ := hE1
  obtain rfl : 0 = z1 := by omega
  have hw : wS D A s.heap [(h2, .inr (3, [.ref ka2, .ref va2, .ref sa2, .ref ga2, .int (iI siz2), .int (iI 2)]))] H locs := hw
  refine r_if_eq (tgt := 13) hx hb dX2_period_5 (by decide) (by decide) (fun hbr2 => ?_) (fun hbr2 => (by exfalso; omega))
  refine r_iconst hx hb dX2_period_13 ?_
  refine lv_aload_n hx hb dX2_period_14 rfl (lv_at hl 0 rfl) ?_
  refine r_iconst hx hb dX2_period_15 ?_
  refine g_cVi (wr := []) (q0 := 0) (ci := 3) hx hb hml hC hA hw hl.1 (c_Law_uses3 l D τ _ h2 ka2 va2 sa2 ga2 siz2 ) kX2_uses ml_X2_42 [0] [] rfl rfl (by decide) (by decide) (by decide) rfl rfl rfl rfl (Nat.le_of_ble_eq_true rfl) ⟨by decide, by decide⟩ ⟨by decide, by decide⟩ rfl rfl dX2_period_16 (fun z3 w3 H locs hz3 hE3 hw => ?_)
  obtain ⟨hq3, rfl⟩ := hE3
  obtain rfl : 0 = z3 := by omega
  have hw : wS D A s.heap [(h2, .inr (3, [.ref ka2, .ref va2, .ref sa2, .ref ga2, .int (iI siz2), .int (iI 2)]))] H locs := hw
  refine r_if_eq (tgt := 29) hx hb dX2_period_19 (by decide) (by decide) (fun hbr4 => ?_) (fun hbr4 => (by exfalso; omega))
  refine r_iconst hx hb dX2_period_29 ?_
  refine r_imul (z := 1) hx hb dX2_period_30 rfl ?_
  exact r_iret (z := 1) hx hb hr hlk hw [(h2, .inr (3, [.ref ka2, .ref va2, .ref sa2, .ref ga2, .int (iI siz2), .int (iI 2)]))] [0] rfl (by decide) (by decide) ⟨(by omega), rfl⟩ dX2_period_31
abbrev W_c_Hear_init (τ : Nat → ClassId) (h3 : Nat) : va_W := [(h3, .inr (1, [.null, .null, .int (iI 0)]))]
abbrev E_c_Hear_init (τ : Nat → ClassId) (h3 : Nat) : va_W → Prop := fun w => ∃ (ha3 : Nat), ∃ (hb3 : Nat), (True) ∧ w = [(h3, .inr (1, [.ref ha3, .ref hb3, .int (iI 0)])), (ha3, .inl (τ 0, 8, .inl (ar (fun _ => 0)))), (hb3, .inl (τ 0, 8, .inl (ar (fun _ => 0))))]
set_option maxHeartbeats 4000000 in
set_option maxRecDepth 100000 in
theorem c_Hear_init (l : Launch) (D : va_G) (τ : Nat → ClassId) (sz : Nat) (h3 : Nat)  : Met l yX0_init (lw_w yX0_init cX0_init 1 none) (rmk 1 2 16) (gPc D τ (W_c_Hear_init τ h3) sz [.ref h3]) (gQv D (E_c_Hear_init τ h3) (va_A (W_c_Hear_init τ h3) sz)) 2 16 (va_A (W_c_Hear_init τ h3) sz) := by
  refine g_met (ret := none) (Qc := gQv D (E_c_Hear_init τ h3)) (by decide +kernel) (Nat.le_of_ble_eq_true rfl) ?_
  intro p e s m args below meth c A ls hx hb hml hr hlk hnm hC hA hw hl
  have hC : cx D τ s m args RX0 := hC
  have hl : lv_has ls 1 [(0, .ref h3)] := hl
  have hw : wS D A s.heap [(h3, .inr (1, [.null, .null, .int (iI 0)]))] s.heap [] := hw
  refine lv_aload_n hx hb dX0_init_0 rfl (lv_at hl 0 rfl) ?_
  refine r_objInit hx hb hml hC hl.1 ml_X0_3 im_init cd_init (by decide) (Nat.le_of_ble_eq_true rfl) (by decide) dX0_init_1 ?_
  refine lv_aload_n hx hb dX0_init_4 rfl (lv_at hl 0 rfl) ?_
  refine r_bipush hx hb dX0_init_5 (by decide +kernel) ?_
  refine r_newi (N := 8) hx hb hC hA hw ac_int (by decide) (by decide) (by decide) (by decide) rfl rfl dX0_init_7 (fun a1 H hw => ?_)
  have hw : wS D A s.heap [(h3, .inr (1, [.null, .null, .int (iI 0)])), (a1, .inl (τ 0, 8, .inl (ar (fun _ => 0))))] H _ := hw
  refine pf_X0_9 (ws' := [(h3, .inr (1, [.ref a1, .null, .int (iI 0)])), (a1, .inl (τ 0, 8, .inl (ar (fun _ => 0))))]) hx hb hC hw hnm 0 rfl (Nat.le_of_ble_eq_true rfl) rfl dX0_init_9 (fun H locs hw => ?_)
  refine lv_aload_n hx hb dX0_init_12 rfl (lv_at hl 0 rfl) ?_
  refine r_bipush hx hb dX0_init_13 (by decide +kernel) ?_
  refine r_newi (N := 8) hx hb hC hA hw ac_int (by decide) (by decide) (by decide) (by decide) rfl rfl dX0_init_15 (fun a2 H hw => ?_)
  have hw : wS D A s.heap [(h3, .inr (1, [.ref a1, .null, .int (iI 0)])), (a1, .inl (τ 0, 8, .inl (ar (fun _ => 0)))), (a2, .inl (τ 0, 8, .inl (ar (fun _ => 0))))] H _ := hw
  refine pf_X0_15 (ws' := [(h3, .inr (1, [.ref a1, .ref a2, .int (iI 0)])), (a1, .inl (τ 0, 8, .inl (ar (fun _ => 0)))), (a2, .inl (τ 0, 8, .inl (ar (fun _ => 0))))]) hx hb hC hw hnm 0 rfl (Nat.le_of_ble_eq_true rfl) rfl dX0_init_17 (fun H locs hw => ?_)
  refine lv_aload_n hx hb dX0_init_20 rfl (lv_at hl 0 rfl) ?_
  refine r_iconst hx hb dX0_init_21 ?_
  refine pf_X0_18 (ws' := [(h3, .inr (1, [.ref a1, .ref a2, .int (iI 0)])), (a1, .inl (τ 0, 8, .inl (ar (fun _ => 0)))), (a2, .inl (τ 0, 8, .inl (ar (fun _ => 0))))]) hx hb hC hw 0 rfl (Nat.le_of_ble_eq_true rfl) rfl dX0_init_22 (fun H locs hw => ?_)
  exact r_vret hx hb hr hlk hw [(h3, .inr (1, [.ref a1, .ref a2, .int (iI 0)])), (a1, .inl (τ 0, 8, .inl (ar (fun _ => 0)))), (a2, .inl (τ 0, 8, .inl (ar (fun _ => 0))))] [0, 1, 2] rfl (by decide) ⟨a1, a2, trivial, rfl⟩ dX0_init_25
abbrev W_c_Hear_canBe (τ : Nat → ClassId) (v : Int) (v2 : Int) : va_W := []
abbrev E_c_Hear_canBe (τ : Nat → ClassId) (v : Int) (v2 : Int) : Int → va_W → Prop := fun z w => ((z = 1 ∧ (((v = 0 ∨ v = 2) ∧ 0 ≤ v2 ∧ v2 ≤ 8) ∨ (v = 1 ∧ 1 ≤ v2 ∧ v2 ≤ 6) ∨ (v = 3 ∧ (v2 = 0 ∨ v2 = 1)))) ∨ (z = 0 ∧ ¬ (((v = 0 ∨ v = 2) ∧ 0 ≤ v2 ∧ v2 ≤ 8) ∨ (v = 1 ∧ 1 ≤ v2 ∧ v2 ≤ 6) ∨ (v = 3 ∧ (v2 = 0 ∨ v2 = 1))))) ∧ w = []
set_option maxHeartbeats 4000000 in
set_option maxRecDepth 100000 in
theorem c_Hear_canBe (l : Launch) (D : va_G) (τ : Nat → ClassId) (sz : Nat) (v : Int) (v2 : Int) (hp0 : iR v) (hp1 : iR v2) : Met l yX0_canBe (lw_w yX0_canBe cX0_canBe 2 (some .boolean)) (rmk 1 0 0) (gPc D τ (W_c_Hear_canBe τ v v2) sz [.int (iI v), .int (iI v2)]) (gQi D (E_c_Hear_canBe τ v v2) (va_A (W_c_Hear_canBe τ v v2) sz)) 0 0 (va_A (W_c_Hear_canBe τ v v2) sz) := by
  refine g_met (ret := (some .boolean)) (Qc := gQi D (E_c_Hear_canBe τ v v2)) (by decide +kernel) (Nat.le_of_ble_eq_true rfl) ?_
  intro p e s m args below meth c A ls hx hb hml hr hlk hnm hC hA hw hl
  have hC : cx D τ s m args RX0 := hC
  have hl : lv_has ls 2 [(0, .int (iI v)), (1, .int (iI v2))] := hl
  have hw : wS D A s.heap [] s.heap [] := hw
  refine lv_iload_n hx hb dX0_canBe_0 rfl (lv_at hl 0 rfl) ?_
  rcases (show (v < 0 ∨ 3 < v) ∨ v = 0 ∨ v = 1 ∨ v = 2 ∨ v = 3 by omega) with hbr1 | hbr1 | hbr1 | hbr1 | hbr1
  · refine r_tblO (tgt := 80) hx hb dX0_canBe_1 (by omega) hbr1 (by decide) ?_
    refine r_iconst hx hb dX0_canBe_80 ?_
    exact r_zret (z := 0) hx hb hr hlk hw [] [] rfl (by decide) (by decide) (by decide) ⟨(by omega), rfl⟩ dX0_canBe_81
  · refine r_tblI (tgt := 32) hx hb dX0_canBe_1 (by omega) (by omega) (by omega) (by rw [hbr1]; rfl) (by decide) ?_
    refine lv_iload_n hx hb dX0_canBe_32 rfl (lv_at hl 1 rfl) ?_
    refine r_if_lt (tgt := 46) hx hb dX0_canBe_33 (by decide) (by omega) (fun hbr2 => ?_) (fun hbr2 => ?_)
    · skip
      refine r_iconst hx hb dX0_canBe_46 ?_
      exact r_zret (z := 0) hx hb hr hlk hw [] [] rfl (by decide) (by decide) (by decide) ⟨(by omega), rfl⟩ dX0_canBe_47
    · skip
      refine lv_iload_n hx hb dX0_canBe_36 rfl (lv_at hl 1 rfl) ?_
      refine r_bipush hx hb dX0_canBe_37 (by decide +kernel) ?_
      refine r_icmp_gt (tgt := 46) hx hb dX0_canBe_39 (by decide) (by omega) (by decide) (fun hbr3 => ?_) (fun hbr3 => ?_)
      · skip
        refine r_iconst hx hb dX0_canBe_46 ?_
        exact r_zret (z := 0) hx hb hr hlk hw [] [] rfl (by decide) (by decide) (by decide) ⟨(by omega), rfl⟩ dX0_canBe_47
      · skip
        refine r_iconst hx hb dX0_canBe_42 ?_
        refine lv_goto (tgt := 47) hx hb dX0_canBe_43 (by decide) ?_
        exact r_zret (z := 1) hx hb hr hlk hw [] [] rfl (by decide) (by decide) (by decide) ⟨(by omega), rfl⟩ dX0_canBe_47
  · refine r_tblI (tgt := 48) hx hb dX0_canBe_1 (by omega) (by omega) (by omega) (by rw [hbr1]; rfl) (by decide) ?_
    refine lv_iload_n hx hb dX0_canBe_48 rfl (lv_at hl 1 rfl) ?_
    refine r_iconst hx hb dX0_canBe_49 ?_
    refine r_icmp_lt (tgt := 63) hx hb dX0_canBe_50 (by decide) (by omega) (by decide) (fun hbr4 => ?_) (fun hbr4 => ?_)
    · skip
      refine r_iconst hx hb dX0_canBe_63 ?_
      exact r_zret (z := 0) hx hb hr hlk hw [] [] rfl (by decide) (by decide) (by decide) ⟨(by omega), rfl⟩ dX0_canBe_64
    · skip
      refine lv_iload_n hx hb dX0_canBe_53 rfl (lv_at hl 1 rfl) ?_
      refine r_bipush hx hb dX0_canBe_54 (by decide +kernel) ?_
      refine r_icmp_gt (tgt := 63) hx hb dX0_canBe_56 (by decide) (by omega) (by decide) (fun hbr5 => ?_) (fun hbr5 => ?_)
      · skip
        refine r_iconst hx hb dX0_canBe_63 ?_
        exact r_zret (z := 0) hx hb hr hlk hw [] [] rfl (by decide) (by decide) (by decide) ⟨(by omega), rfl⟩ dX0_canBe_64
      · skip
        refine r_iconst hx hb dX0_canBe_59 ?_
        refine lv_goto (tgt := 64) hx hb dX0_canBe_60 (by decide) ?_
        exact r_zret (z := 1) hx hb hr hlk hw [] [] rfl (by decide) (by decide) (by decide) ⟨(by omega), rfl⟩ dX0_canBe_64
  · refine r_tblI (tgt := 32) hx hb dX0_canBe_1 (by omega) (by omega) (by omega) (by rw [hbr1]; rfl) (by decide) ?_
    refine lv_iload_n hx hb dX0_canBe_32 rfl (lv_at hl 1 rfl) ?_
    refine r_if_lt (tgt := 46) hx hb dX0_canBe_33 (by decide) (by omega) (fun hbr6 => ?_) (fun hbr6 => ?_)
    · skip
      refine r_iconst hx hb dX0_canBe_46 ?_
      exact r_zret (z := 0) hx hb hr hlk hw [] [] rfl (by decide) (by decide) (by decide) ⟨(by omega), rfl⟩ dX0_canBe_47
    · skip
      refine lv_iload_n hx hb dX0_canBe_36 rfl (lv_at hl 1 rfl) ?_
      refine r_bipush hx hb dX0_canBe_37 (by decide +kernel) ?_
      refine r_icmp_gt (tgt := 46) hx hb dX0_canBe_39 (by decide) (by omega) (by decide) (fun hbr7 => ?_) (fun hbr7 => ?_)
      · skip
        refine r_iconst hx hb dX0_canBe_46 ?_
        exact r_zret (z := 0) hx hb hr hlk hw [] [] rfl (by decide) (by decide) (by decide) ⟨(by omega), rfl⟩ dX0_canBe_47
      · skip
        refine r_iconst hx hb dX0_canBe_42 ?_
        refine lv_goto (tgt := 47) hx hb dX0_canBe_43 (by decide) ?_
        exact r_zret (z := 1) hx hb hr hlk hw [] [] rfl (by decide) (by decide) (by decide) ⟨(by omega), rfl⟩ dX0_canBe_47
  · refine r_tblI (tgt := 65) hx hb dX0_canBe_1 (by omega) (by omega) (by omega) (by rw [hbr1]; rfl) (by decide) ?_
    refine lv_iload_n hx hb dX0_canBe_65 rfl (lv_at hl 1 rfl) ?_
    refine r_if_eq (tgt := 74) hx hb dX0_canBe_66 (by decide) (by omega) (fun hbr8 => ?_) (fun hbr8 => ?_)
    · skip
      refine r_iconst hx hb dX0_canBe_74 ?_
      refine lv_goto (tgt := 79) hx hb dX0_canBe_75 (by decide) ?_
      exact r_zret (z := 1) hx hb hr hlk hw [] [] rfl (by decide) (by decide) (by decide) ⟨(by omega), rfl⟩ dX0_canBe_79
    · skip
      refine lv_iload_n hx hb dX0_canBe_69 rfl (lv_at hl 1 rfl) ?_
      refine r_iconst hx hb dX0_canBe_70 ?_
      refine r_icmp_ne (tgt := 78) hx hb dX0_canBe_71 (by decide) (by omega) (by decide) (fun hbr9 => ?_) (fun hbr9 => ?_)
      · skip
        refine r_iconst hx hb dX0_canBe_78 ?_
        exact r_zret (z := 0) hx hb hr hlk hw [] [] rfl (by decide) (by decide) (by decide) ⟨(by omega), rfl⟩ dX0_canBe_79
      · skip
        refine r_iconst hx hb dX0_canBe_74 ?_
        refine lv_goto (tgt := 79) hx hb dX0_canBe_75 (by decide) ?_
        exact r_zret (z := 1) hx hb hr hlk hw [] [] rfl (by decide) (by decide) (by decide) ⟨(by omega), rfl⟩ dX0_canBe_79
abbrev W_c_Hear_add (τ : Nat → ClassId) (h3 : Nat) (ha3 : Nat) (hb3 : Nat) (cnt3 : Int) (hk3 : Int → Int) (hv3 : Int → Int) (v : Int) (v2 : Int) : va_W := [(h3, .inr (1, [.ref ha3, .ref hb3, .int (iI cnt3)])), (ha3, .inl (τ 0, 8, .inl (ar hk3))), (hb3, .inl (τ 0, 8, .inl (ar hv3)))]
abbrev E_c_Hear_add (τ : Nat → ClassId) (h3 : Nat) (ha3 : Nat) (hb3 : Nat) (cnt3 : Int) (hk3 : Int → Int) (hv3 : Int → Int) (v : Int) (v2 : Int) : Int → va_W → Prop := fun z w => ∃ (cnt4 : Int), ∃ (hk4 : Int → Int), ∃ (hv4 : Int → Int), ((z = 1 ∧ cnt3 < 8 ∧ (((v = 0 ∨ v = 2) ∧ 0 ≤ v2 ∧ v2 ≤ 8) ∨ (v = 1 ∧ 1 ≤ v2 ∧ v2 ≤ 6) ∨ (v = 3 ∧ (v2 = 0 ∨ v2 = 1))) ∧ cnt4 = cnt3 + 1) ∨ (z = 0 ∧ (cnt3 = 8 ∨ ¬ (((v = 0 ∨ v = 2) ∧ 0 ≤ v2 ∧ v2 ≤ 8) ∨ (v = 1 ∧ 1 ≤ v2 ∧ v2 ≤ 6) ∨ (v = 3 ∧ (v2 = 0 ∨ v2 = 1)))) ∧ cnt4 = cnt3)) ∧ w = [(h3, .inr (1, [.ref ha3, .ref hb3, .int (iI cnt4)])), (ha3, .inl (τ 0, 8, .inl (ar hk4))), (hb3, .inl (τ 0, 8, .inl (ar hv4)))]
set_option maxHeartbeats 4000000 in
set_option maxRecDepth 100000 in
theorem c_Hear_add (l : Launch) (D : va_G) (τ : Nat → ClassId) (sz : Nat) (h3 : Nat) (ha3 : Nat) (hb3 : Nat) (cnt3 : Int) (hk3 : Int → Int) (hv3 : Int → Int) (v : Int) (v2 : Int) (hp0 : iR v) (hp1 : iR v2) (hp2 : 0 ≤ cnt3 ∧ cnt3 ≤ 8) : Met l yX0_add (lw_w yX0_add cX0_add 3 (some .boolean)) (rmk 2 0 0) (gPc D τ (W_c_Hear_add τ h3 ha3 hb3 cnt3 hk3 hv3 v v2) sz [.ref h3, .int (iI v), .int (iI v2)]) (gQi D (E_c_Hear_add τ h3 ha3 hb3 cnt3 hk3 hv3 v v2) (va_A (W_c_Hear_add τ h3 ha3 hb3 cnt3 hk3 hv3 v v2) sz)) 0 0 (va_A (W_c_Hear_add τ h3 ha3 hb3 cnt3 hk3 hv3 v v2) sz) := by
  refine g_met (ret := (some .boolean)) (Qc := gQi D (E_c_Hear_add τ h3 ha3 hb3 cnt3 hk3 hv3 v v2)) (by decide +kernel) (Nat.le_of_ble_eq_true rfl) ?_
  intro p e s m args below meth c A ls hx hb hml hr hlk hnm hC hA hw hl
  have hC : cx D τ s m args RX0 := hC
  have hl : lv_has ls 3 [(0, .ref h3), (1, .int (iI v)), (2, .int (iI v2))] := hl
  have hw : wS D A s.heap [(h3, .inr (1, [.ref ha3, .ref hb3, .int (iI cnt3)])), (ha3, .inl (τ 0, 8, .inl (ar hk3))), (hb3, .inl (τ 0, 8, .inl (ar hv3)))] s.heap [] := hw
  refine lv_aload_n hx hb dX0_add_0 rfl (lv_at hl 0 rfl) ?_
  refine gf_X0_18 hx hb hC hw 0 rfl rfl dX0_add_1 ?_
  refine r_bipush hx hb dX0_add_4 (by decide +kernel) ?_
  refine r_icmp_ge (tgt := 17) hx hb dX0_add_6 (by decide) (by omega) (by decide) (fun hbr1 => ?_) (fun hbr1 => ?_)
  · skip
    refine r_iconst hx hb dX0_add_17 ?_
    exact r_zret (z := 0) hx hb hr hlk hw [(h3, .inr (1, [.ref ha3, .ref hb3, .int (iI cnt3)])), (ha3, .inl (τ 0, 8, .inl (ar hk3))), (hb3, .inl (τ 0, 8, .inl (ar hv3)))] [0, 1, 2] rfl (by decide) (by decide) (by decide) ⟨cnt3, hk3, hv3, (by omega), rfl⟩ dX0_add_18
  · skip
    refine lv_iload_n hx hb dX0_add_9 rfl (lv_at hl 1 rfl) ?_
    refine lv_iload_n hx hb dX0_add_10 rfl (lv_at hl 2 rfl) ?_
    refine g_cSi (wr := [(h3, .inr (1, [.ref ha3, .ref hb3, .int (iI cnt3)])), (ha3, .inl (τ 0, 8, .inl (ar hk3))), (hb3, .inl (τ 0, 8, .inl (ar hv3)))]) hx hb hml hC hA hw hl.1 (c_Hear_canBe l D τ _ v v2 (by omega) (by omega)) kX0_canBe ml_X0_22 [] [0, 1, 2] rfl rfl (by decide) (by decide) (by decide) rfl rfl (Nat.le_of_ble_eq_true rfl) ⟨by decide, by decide⟩ ⟨by decide, by decide⟩ rfl rfl dX0_add_11 (fun z2 w2 H locs hz2 hE2 hw => ?_)
    obtain ⟨hq2, rfl⟩ := hE2
    have hw : wS D A s.heap [(h3, .inr (1, [.ref ha3, .ref hb3, .int (iI cnt3)])), (ha3, .inl (τ 0, 8, .inl (ar hk3))), (hb3, .inl (τ 0, 8, .inl (ar hv3)))] H locs := hw
    refine r_if_ne (tgt := 19) hx hb dX0_add_14 (by decide) (by omega) (fun hbr3 => ?_) (fun hbr3 => ?_)
    · skip
      refine lv_aload_n hx hb dX0_add_19 rfl (lv_at hl 0 rfl) ?_
      refine gf_X0_9 hx hb hC hw 0 rfl rfl dX0_add_20 ?_
      refine lv_aload_n hx hb dX0_add_23 rfl (lv_at hl 0 rfl) ?_
      refine gf_X0_18 hx hb hC hw 0 rfl rfl dX0_add_24 ?_
      refine lv_iload_n hx hb dX0_add_27 rfl (lv_at hl 1 rfl) ?_
      refine r_iast (ws' := [(h3, .inr (1, [.ref ha3, .ref hb3, .int (iI cnt3)])), (ha3, .inl (τ 0, 8, .inl (ar (up hk3 cnt3 v)))), (hb3, .inl (τ 0, 8, .inl (ar hv3)))]) hx hb hC hw 1 rfl (by omega) (by omega) (by decide) rfl dX0_add_28 (fun H locs hw => ?_)
      refine lv_aload_n hx hb dX0_add_29 rfl (lv_at hl 0 rfl) ?_
      refine gf_X0_15 hx hb hC hw 0 rfl rfl dX0_add_30 ?_
      refine lv_aload_n hx hb dX0_add_33 rfl (lv_at hl 0 rfl) ?_
      refine gf_X0_18 hx hb hC hw 0 rfl rfl dX0_add_34 ?_
      refine lv_iload_n hx hb dX0_add_37 rfl (lv_at hl 2 rfl) ?_
      refine r_iast (ws' := [(h3, .inr (1, [.ref ha3, .ref hb3, .int (iI cnt3)])), (ha3, .inl (τ 0, 8, .inl (ar (up hk3 cnt3 v)))), (hb3, .inl (τ 0, 8, .inl (ar (up hv3 cnt3 v2))))]) hx hb hC hw 2 rfl (by omega) (by omega) (by decide) rfl dX0_add_38 (fun H locs hw => ?_)
      refine lv_aload_n hx hb dX0_add_39 rfl (lv_at hl 0 rfl) ?_
      refine lv_dup hx hb dX0_add_40 rfl ?_
      refine gf_X0_18 hx hb hC hw 0 rfl rfl dX0_add_41 ?_
      refine r_iconst hx hb dX0_add_44 ?_
      refine r_iadd (z := (cnt3 + 1)) hx hb dX0_add_45 (by omega) ?_
      refine pf_X0_18 (ws' := [(h3, .inr (1, [.ref ha3, .ref hb3, .int (iI (cnt3 + 1))])), (ha3, .inl (τ 0, 8, .inl (ar (up hk3 cnt3 v)))), (hb3, .inl (τ 0, 8, .inl (ar (up hv3 cnt3 v2))))]) hx hb hC hw 0 rfl (Nat.le_of_ble_eq_true rfl) rfl dX0_add_46 (fun H locs hw => ?_)
      refine r_iconst hx hb dX0_add_49 ?_
      exact r_zret (z := 1) hx hb hr hlk hw [(h3, .inr (1, [.ref ha3, .ref hb3, .int (iI (cnt3 + 1))])), (ha3, .inl (τ 0, 8, .inl (ar (up hk3 cnt3 v)))), (hb3, .inl (τ 0, 8, .inl (ar (up hv3 cnt3 v2))))] [0, 1, 2] rfl (by decide) (by decide) (by decide) ⟨(cnt3 + 1), (up hk3 cnt3 v), (up hv3 cnt3 v2), (by omega), rfl⟩ dX0_add_50
    · skip
      refine r_iconst hx hb dX0_add_17 ?_
      exact r_zret (z := 0) hx hb hr hlk hw [(h3, .inr (1, [.ref ha3, .ref hb3, .int (iI cnt3)])), (ha3, .inl (τ 0, 8, .inl (ar hk3))), (hb3, .inl (τ 0, 8, .inl (ar hv3)))] [0, 1, 2] rfl (by decide) (by decide) (by decide) ⟨cnt3, hk3, hv3, (by omega), rfl⟩ dX0_add_18
abbrev W_c_Ord_init (τ : Nat → ClassId) (h4 : Nat) : va_W := [(h4, .inr (4, [.null, .null, .int (iI 0)]))]
abbrev E_c_Ord_init (τ : Nat → ClassId) (h4 : Nat) : va_W → Prop := fun w => ∃ (oc4 : Nat), ∃ (ob4 : Nat), (True) ∧ w = [(h4, .inr (4, [.ref oc4, .ref ob4, .int (iI 0)])), (oc4, .inl (τ 0, 6, .inl (ar (fun _ => 0)))), (ob4, .inl (τ 0, 6, .inl (ar (fun _ => 0))))]
set_option maxHeartbeats 4000000 in
set_option maxRecDepth 100000 in
theorem c_Ord_init (l : Launch) (D : va_G) (τ : Nat → ClassId) (sz : Nat) (h4 : Nat)  : Met l yX3_init (lw_w yX3_init cX3_init 1 none) (rmk 1 2 12) (gPc D τ (W_c_Ord_init τ h4) sz [.ref h4]) (gQv D (E_c_Ord_init τ h4) (va_A (W_c_Ord_init τ h4) sz)) 2 12 (va_A (W_c_Ord_init τ h4) sz) := by
  refine g_met (ret := none) (Qc := gQv D (E_c_Ord_init τ h4)) (by decide +kernel) (Nat.le_of_ble_eq_true rfl) ?_
  intro p e s m args below meth c A ls hx hb hml hr hlk hnm hC hA hw hl
  have hC : cx D τ s m args RX3 := hC
  have hl : lv_has ls 1 [(0, .ref h4)] := hl
  have hw : wS D A s.heap [(h4, .inr (4, [.null, .null, .int (iI 0)]))] s.heap [] := hw
  refine lv_aload_n hx hb dX3_init_0 rfl (lv_at hl 0 rfl) ?_
  refine r_objInit hx hb hml hC hl.1 ml_X3_3 im_init cd_init (by decide) (Nat.le_of_ble_eq_true rfl) (by decide) dX3_init_1 ?_
  refine lv_aload_n hx hb dX3_init_4 rfl (lv_at hl 0 rfl) ?_
  refine r_bipush hx hb dX3_init_5 (by decide +kernel) ?_
  refine r_newi (N := 6) hx hb hC hA hw ac_int (by decide) (by decide) (by decide) (by decide) rfl rfl dX3_init_7 (fun a1 H hw => ?_)
  have hw : wS D A s.heap [(h4, .inr (4, [.null, .null, .int (iI 0)])), (a1, .inl (τ 0, 6, .inl (ar (fun _ => 0))))] H _ := hw
  refine pf_X3_9 (ws' := [(h4, .inr (4, [.ref a1, .null, .int (iI 0)])), (a1, .inl (τ 0, 6, .inl (ar (fun _ => 0))))]) hx hb hC hw hnm 0 rfl (Nat.le_of_ble_eq_true rfl) rfl dX3_init_9 (fun H locs hw => ?_)
  refine lv_aload_n hx hb dX3_init_12 rfl (lv_at hl 0 rfl) ?_
  refine r_bipush hx hb dX3_init_13 (by decide +kernel) ?_
  refine r_newi (N := 6) hx hb hC hA hw ac_int (by decide) (by decide) (by decide) (by decide) rfl rfl dX3_init_15 (fun a2 H hw => ?_)
  have hw : wS D A s.heap [(h4, .inr (4, [.ref a1, .null, .int (iI 0)])), (a1, .inl (τ 0, 6, .inl (ar (fun _ => 0)))), (a2, .inl (τ 0, 6, .inl (ar (fun _ => 0))))] H _ := hw
  refine pf_X3_15 (ws' := [(h4, .inr (4, [.ref a1, .ref a2, .int (iI 0)])), (a1, .inl (τ 0, 6, .inl (ar (fun _ => 0)))), (a2, .inl (τ 0, 6, .inl (ar (fun _ => 0))))]) hx hb hC hw hnm 0 rfl (Nat.le_of_ble_eq_true rfl) rfl dX3_init_17 (fun H locs hw => ?_)
  refine lv_aload_n hx hb dX3_init_20 rfl (lv_at hl 0 rfl) ?_
  refine r_iconst hx hb dX3_init_21 ?_
  refine pf_X3_18 (ws' := [(h4, .inr (4, [.ref a1, .ref a2, .int (iI 0)])), (a1, .inl (τ 0, 6, .inl (ar (fun _ => 0)))), (a2, .inl (τ 0, 6, .inl (ar (fun _ => 0))))]) hx hb hC hw 0 rfl (Nat.le_of_ble_eq_true rfl) rfl dX3_init_22 (fun H locs hw => ?_)
  exact r_vret hx hb hr hlk hw [(h4, .inr (4, [.ref a1, .ref a2, .int (iI 0)])), (a1, .inl (τ 0, 6, .inl (ar (fun _ => 0)))), (a2, .inl (τ 0, 6, .inl (ar (fun _ => 0))))] [0, 1, 2] rfl (by decide) ⟨a1, a2, trivial, rfl⟩ dX3_init_25
abbrev W_c_Ord_begin0 (τ : Nat → ClassId) (h4 : Nat) (oc4 : Nat) (ob4 : Nat) (osz4 : Int) (h0 : Nat) (c0 : Nat) (k0 : Nat) (p0 : Nat) (o0 : Nat) (f0 : Nat) (g0 : Nat) (ac0 : Int) (ec0 : Int) (stp0 : Int) (h8 : Nat) (d8 : Nat) (cor8 : Int) (dig8 : Int) : va_W := [(h4, .inr (4, [.ref oc4, .ref ob4, .int (iI osz4)])), (h0, .inr (7, [.ref c0, .ref k0, .ref p0, .ref o0, .ref f0, .ref g0, .int (iI 0), .int (iI 0), .int (iI ac0), .int (iI ec0), .int (iI stp0)])), (h8, .inr (9, [.ref d8, .int (iI 4), .int (iI cor8), .int (iI dig8)]))]
abbrev E_c_Ord_begin0 (τ : Nat → ClassId) (h4 : Nat) (oc4 : Nat) (ob4 : Nat) (osz4 : Int) (h0 : Nat) (c0 : Nat) (k0 : Nat) (p0 : Nat) (o0 : Nat) (f0 : Nat) (g0 : Nat) (ac0 : Int) (ec0 : Int) (stp0 : Int) (h8 : Nat) (d8 : Nat) (cor8 : Int) (dig8 : Int) : va_W → Prop := fun w => (True) ∧ w = [(h4, .inr (4, [.ref oc4, .ref ob4, .int (iI 0)])), (h0, .inr (7, [.ref c0, .ref k0, .ref p0, .ref o0, .ref f0, .ref g0, .int (iI 0), .int (iI 0), .int (iI ac0), .int (iI ec0), .int (iI stp0)])), (h8, .inr (9, [.ref d8, .int (iI 4), .int (iI cor8), .int (iI dig8)]))]
set_option maxHeartbeats 4000000 in
set_option maxRecDepth 100000 in
theorem c_Ord_begin0 (l : Launch) (D : va_G) (τ : Nat → ClassId) (sz : Nat) (h4 : Nat) (oc4 : Nat) (ob4 : Nat) (osz4 : Int) (h0 : Nat) (c0 : Nat) (k0 : Nat) (p0 : Nat) (o0 : Nat) (f0 : Nat) (g0 : Nat) (ac0 : Int) (ec0 : Int) (stp0 : Int) (h8 : Nat) (d8 : Nat) (cor8 : Int) (dig8 : Int)  : Met l yX3_begin (lw_w yX3_begin cX3_begin 4 none) (rmk 2 0 0) (gPc D τ (W_c_Ord_begin0 τ h4 oc4 ob4 osz4 h0 c0 k0 p0 o0 f0 g0 ac0 ec0 stp0 h8 d8 cor8 dig8) sz [.ref h4, .ref h0, .ref h8]) (gQv D (E_c_Ord_begin0 τ h4 oc4 ob4 osz4 h0 c0 k0 p0 o0 f0 g0 ac0 ec0 stp0 h8 d8 cor8 dig8) (va_A (W_c_Ord_begin0 τ h4 oc4 ob4 osz4 h0 c0 k0 p0 o0 f0 g0 ac0 ec0 stp0 h8 d8 cor8 dig8) sz)) 0 0 (va_A (W_c_Ord_begin0 τ h4 oc4 ob4 osz4 h0 c0 k0 p0 o0 f0 g0 ac0 ec0 stp0 h8 d8 cor8 dig8) sz) := by
  refine g_met (ret := none) (Qc := gQv D (E_c_Ord_begin0 τ h4 oc4 ob4 osz4 h0 c0 k0 p0 o0 f0 g0 ac0 ec0 stp0 h8 d8 cor8 dig8)) (by decide +kernel) (Nat.le_of_ble_eq_true rfl) ?_
  intro p e s m args below meth c A ls hx hb hml hr hlk hnm hC hA hw hl
  have hC : cx D τ s m args RX3 := hC
  have hl : lv_has ls 4 [(0, .ref h4), (1, .ref h0), (2, .ref h8)] := hl
  have hw : wS D A s.heap [(h4, .inr (4, [.ref oc4, .ref ob4, .int (iI osz4)])), (h0, .inr (7, [.ref c0, .ref k0, .ref p0, .ref o0, .ref f0, .ref g0, .int (iI 0), .int (iI 0), .int (iI ac0), .int (iI ec0), .int (iI stp0)])), (h8, .inr (9, [.ref d8, .int (iI 4), .int (iI cor8), .int (iI dig8)]))] s.heap [] := hw
  refine lv_aload_n hx hb dX3_begin_0 rfl (lv_at hl 0 rfl) ?_
  refine r_iconst hx hb dX3_begin_1 ?_
  refine pf_X3_18 (ws' := [(h4, .inr (4, [.ref oc4, .ref ob4, .int (iI 0)])), (h0, .inr (7, [.ref c0, .ref k0, .ref p0, .ref o0, .ref f0, .ref g0, .int (iI 0), .int (iI 0), .int (iI ac0), .int (iI ec0), .int (iI stp0)])), (h8, .inr (9, [.ref d8, .int (iI 4), .int (iI cor8), .int (iI dig8)]))]) hx hb hC hw 0 rfl (Nat.le_of_ble_eq_true rfl) rfl dX3_begin_2 (fun H locs hw => ?_)
  refine r_iconst hx hb dX3_begin_5 ?_
  refine lv_istore_n (lv' := [(3, .int (iI 0)), (0, .ref h4), (1, .ref h0), (2, .ref h8)]) hx hb dX3_begin_6 rfl hl (by decide) rfl (fun ls hl => ?_)
  refine lv_iload_n hx hb dX3_begin_7 rfl (lv_at hl 0 rfl) ?_
  refine lv_aload_n hx hb dX3_begin_8 rfl (lv_at hl 3 rfl) ?_
  refine gf_X3_22 hx hb hC hw 2 rfl rfl dX3_begin_9 ?_
  refine r_icmp_ge (tgt := 59) hx hb dX3_begin_12 (by decide) (by decide) (by decide) (fun hbr1 => (by exfalso; omega)) (fun hbr1 => ?_)
  refine lv_aload_n hx hb dX3_begin_15 rfl (lv_at hl 1 rfl) ?_
  refine gf_X3_18 hx hb hC hw 0 rfl rfl dX3_begin_16 ?_
  refine r_bipush hx hb dX3_begin_19 (by decide +kernel) ?_
  refine r_icmp_ge (tgt := 59) hx hb dX3_begin_21 (by decide) (by decide) (by decide) (fun hbr2 => (by exfalso; omega)) (fun hbr2 => ?_)
  refine lv_aload_n hx hb dX3_begin_24 rfl (lv_at hl 2 rfl) ?_
  refine lv_iload_n hx hb dX3_begin_25 rfl (lv_at hl 0 rfl) ?_
  refine g_cVi (wr := [(h4, .inr (4, [.ref oc4, .ref ob4, .int (iI 0)])), (h8, .inr (9, [.ref d8, .int (iI 4), .int (iI cor8), .int (iI dig8)]))]) (q0 := 0) (ci := 7) hx hb hml hC hA hw hl.1 (c_Scene_hearseOn0 l D τ _ h0 c0 k0 p0 o0 f0 g0 ac0 ec0 stp0 0 ) kX6_hearseOn ml_X3_26 [1] [0, 2] rfl rfl (by decide) (by decide) (by decide) rfl rfl rfl rfl (Nat.le_of_ble_eq_true rfl) ⟨by decide, by decide⟩ ⟨by decide, by decide⟩ rfl rfl dX3_begin_26 (fun z3 w3 H locs hz3 hE3 hw => ?_)
  obtain ⟨hq3, rfl⟩ := hE3
  obtain rfl : (-1) = z3 := by omega
  have hw : wS D A s.heap [(h4, .inr (4, [.ref oc4, .ref ob4, .int (iI 0)])), (h8, .inr (9, [.ref d8, .int (iI 4), .int (iI cor8), .int (iI dig8)])), (h0, .inr (7, [.ref c0, .ref k0, .ref p0, .ref o0, .ref f0, .ref g0, .int (iI 0), .int (iI 0), .int (iI ac0), .int (iI ec0), .int (iI stp0)]))] H locs := hw
  refine r_iconst hx hb dX3_begin_29 ?_
  refine r_icmp_eq (tgt := 53) hx hb dX3_begin_30 (by decide) (by decide) (by decide) (fun hbr4 => ?_) (fun hbr4 => (by exfalso; omega))
  refine r_iinc (v := 1) (lv' := [(3, .int (iI 1)), (0, .ref h4), (1, .ref h0), (2, .ref h8)]) hx hb dX3_begin_53 hl (k := 0) rfl rfl (by decide) rfl (fun ls hl => ?_)
  refine lv_goto (tgt := 7) hx hb dX3_begin_56 (by decide) ?_
  refine lv_iload_n hx hb dX3_begin_7 rfl (lv_at hl 0 rfl) ?_
  refine lv_aload_n hx hb dX3_begin_8 rfl (lv_at hl 3 rfl) ?_
  refine gf_X3_22 hx hb hC hw 1 rfl rfl dX3_begin_9 ?_
  refine r_icmp_ge (tgt := 59) hx hb dX3_begin_12 (by decide) (by decide) (by decide) (fun hbr5 => (by exfalso; omega)) (fun hbr5 => ?_)
  refine lv_aload_n hx hb dX3_begin_15 rfl (lv_at hl 1 rfl) ?_
  refine gf_X3_18 hx hb hC hw 0 rfl rfl dX3_begin_16 ?_
  refine r_bipush hx hb dX3_begin_19 (by decide +kernel) ?_
  refine r_icmp_ge (tgt := 59) hx hb dX3_begin_21 (by decide) (by decide) (by decide) (fun hbr6 => (by exfalso; omega)) (fun hbr6 => ?_)
  refine lv_aload_n hx hb dX3_begin_24 rfl (lv_at hl 2 rfl) ?_
  refine lv_iload_n hx hb dX3_begin_25 rfl (lv_at hl 0 rfl) ?_
  refine g_cVi (wr := [(h4, .inr (4, [.ref oc4, .ref ob4, .int (iI 0)])), (h8, .inr (9, [.ref d8, .int (iI 4), .int (iI cor8), .int (iI dig8)]))]) (q0 := 0) (ci := 7) hx hb hml hC hA hw hl.1 (c_Scene_hearseOn0 l D τ _ h0 c0 k0 p0 o0 f0 g0 ac0 ec0 stp0 1 ) kX6_hearseOn ml_X3_26 [2] [0, 1] rfl rfl (by decide) (by decide) (by decide) rfl rfl rfl rfl (Nat.le_of_ble_eq_true rfl) ⟨by decide, by decide⟩ ⟨by decide, by decide⟩ rfl rfl dX3_begin_26 (fun z7 w7 H locs hz7 hE7 hw => ?_)
  obtain ⟨hq7, rfl⟩ := hE7
  obtain rfl : (-1) = z7 := by omega
  have hw : wS D A s.heap [(h4, .inr (4, [.ref oc4, .ref ob4, .int (iI 0)])), (h8, .inr (9, [.ref d8, .int (iI 4), .int (iI cor8), .int (iI dig8)])), (h0, .inr (7, [.ref c0, .ref k0, .ref p0, .ref o0, .ref f0, .ref g0, .int (iI 0), .int (iI 0), .int (iI ac0), .int (iI ec0), .int (iI stp0)]))] H locs := hw
  refine r_iconst hx hb dX3_begin_29 ?_
  refine r_icmp_eq (tgt := 53) hx hb dX3_begin_30 (by decide) (by decide) (by decide) (fun hbr8 => ?_) (fun hbr8 => (by exfalso; omega))
  refine r_iinc (v := 2) (lv' := [(3, .int (iI 2)), (0, .ref h4), (1, .ref h0), (2, .ref h8)]) hx hb dX3_begin_53 hl (k := 0) rfl rfl (by decide) rfl (fun ls hl => ?_)
  refine lv_goto (tgt := 7) hx hb dX3_begin_56 (by decide) ?_
  refine lv_iload_n hx hb dX3_begin_7 rfl (lv_at hl 0 rfl) ?_
  refine lv_aload_n hx hb dX3_begin_8 rfl (lv_at hl 3 rfl) ?_
  refine gf_X3_22 hx hb hC hw 1 rfl rfl dX3_begin_9 ?_
  refine r_icmp_ge (tgt := 59) hx hb dX3_begin_12 (by decide) (by decide) (by decide) (fun hbr9 => (by exfalso; omega)) (fun hbr9 => ?_)
  refine lv_aload_n hx hb dX3_begin_15 rfl (lv_at hl 1 rfl) ?_
  refine gf_X3_18 hx hb hC hw 0 rfl rfl dX3_begin_16 ?_
  refine r_bipush hx hb dX3_begin_19 (by decide +kernel) ?_
  refine r_icmp_ge (tgt := 59) hx hb dX3_begin_21 (by decide) (by decide) (by decide) (fun hbr10 => (by exfalso; omega)) (fun hbr10 => ?_)
  refine lv_aload_n hx hb dX3_begin_24 rfl (lv_at hl 2 rfl) ?_
  refine lv_iload_n hx hb dX3_begin_25 rfl (lv_at hl 0 rfl) ?_
  refine g_cVi (wr := [(h4, .inr (4, [.ref oc4, .ref ob4, .int (iI 0)])), (h8, .inr (9, [.ref d8, .int (iI 4), .int (iI cor8), .int (iI dig8)]))]) (q0 := 0) (ci := 7) hx hb hml hC hA hw hl.1 (c_Scene_hearseOn0 l D τ _ h0 c0 k0 p0 o0 f0 g0 ac0 ec0 stp0 2 ) kX6_hearseOn ml_X3_26 [2] [0, 1] rfl rfl (by decide) (by decide) (by decide) rfl rfl rfl rfl (Nat.le_of_ble_eq_true rfl) ⟨by decide, by decide⟩ ⟨by decide, by decide⟩ rfl rfl dX3_begin_26 (fun z11 w11 H locs hz11 hE11 hw => ?_)
  obtain ⟨hq11, rfl⟩ := hE11
  obtain rfl : (-1) = z11 := by omega
  have hw : wS D A s.heap [(h4, .inr (4, [.ref oc4, .ref ob4, .int (iI 0)])), (h8, .inr (9, [.ref d8, .int (iI 4), .int (iI cor8), .int (iI dig8)])), (h0, .inr (7, [.ref c0, .ref k0, .ref p0, .ref o0, .ref f0, .ref g0, .int (iI 0), .int (iI 0), .int (iI ac0), .int (iI ec0), .int (iI stp0)]))] H locs := hw
  refine r_iconst hx hb dX3_begin_29 ?_
  refine r_icmp_eq (tgt := 53) hx hb dX3_begin_30 (by decide) (by decide) (by decide) (fun hbr12 => ?_) (fun hbr12 => (by exfalso; omega))
  refine r_iinc (v := 3) (lv' := [(3, .int (iI 3)), (0, .ref h4), (1, .ref h0), (2, .ref h8)]) hx hb dX3_begin_53 hl (k := 0) rfl rfl (by decide) rfl (fun ls hl => ?_)
  refine lv_goto (tgt := 7) hx hb dX3_begin_56 (by decide) ?_
  refine lv_iload_n hx hb dX3_begin_7 rfl (lv_at hl 0 rfl) ?_
  refine lv_aload_n hx hb dX3_begin_8 rfl (lv_at hl 3 rfl) ?_
  refine gf_X3_22 hx hb hC hw 1 rfl rfl dX3_begin_9 ?_
  refine r_icmp_ge (tgt := 59) hx hb dX3_begin_12 (by decide) (by decide) (by decide) (fun hbr13 => (by exfalso; omega)) (fun hbr13 => ?_)
  refine lv_aload_n hx hb dX3_begin_15 rfl (lv_at hl 1 rfl) ?_
  refine gf_X3_18 hx hb hC hw 0 rfl rfl dX3_begin_16 ?_
  refine r_bipush hx hb dX3_begin_19 (by decide +kernel) ?_
  refine r_icmp_ge (tgt := 59) hx hb dX3_begin_21 (by decide) (by decide) (by decide) (fun hbr14 => (by exfalso; omega)) (fun hbr14 => ?_)
  refine lv_aload_n hx hb dX3_begin_24 rfl (lv_at hl 2 rfl) ?_
  refine lv_iload_n hx hb dX3_begin_25 rfl (lv_at hl 0 rfl) ?_
  refine g_cVi (wr := [(h4, .inr (4, [.ref oc4, .ref ob4, .int (iI 0)])), (h8, .inr (9, [.ref d8, .int (iI 4), .int (iI cor8), .int (iI dig8)]))]) (q0 := 0) (ci := 7) hx hb hml hC hA hw hl.1 (c_Scene_hearseOn0 l D τ _ h0 c0 k0 p0 o0 f0 g0 ac0 ec0 stp0 3 ) kX6_hearseOn ml_X3_26 [2] [0, 1] rfl rfl (by decide) (by decide) (by decide) rfl rfl rfl rfl (Nat.le_of_ble_eq_true rfl) ⟨by decide, by decide⟩ ⟨by decide, by decide⟩ rfl rfl dX3_begin_26 (fun z15 w15 H locs hz15 hE15 hw => ?_)
  obtain ⟨hq15, rfl⟩ := hE15
  obtain rfl : (-1) = z15 := by omega
  have hw : wS D A s.heap [(h4, .inr (4, [.ref oc4, .ref ob4, .int (iI 0)])), (h8, .inr (9, [.ref d8, .int (iI 4), .int (iI cor8), .int (iI dig8)])), (h0, .inr (7, [.ref c0, .ref k0, .ref p0, .ref o0, .ref f0, .ref g0, .int (iI 0), .int (iI 0), .int (iI ac0), .int (iI ec0), .int (iI stp0)]))] H locs := hw
  refine r_iconst hx hb dX3_begin_29 ?_
  refine r_icmp_eq (tgt := 53) hx hb dX3_begin_30 (by decide) (by decide) (by decide) (fun hbr16 => ?_) (fun hbr16 => (by exfalso; omega))
  refine r_iinc (v := 4) (lv' := [(3, .int (iI 4)), (0, .ref h4), (1, .ref h0), (2, .ref h8)]) hx hb dX3_begin_53 hl (k := 0) rfl rfl (by decide) rfl (fun ls hl => ?_)
  refine lv_goto (tgt := 7) hx hb dX3_begin_56 (by decide) ?_
  refine lv_iload_n hx hb dX3_begin_7 rfl (lv_at hl 0 rfl) ?_
  refine lv_aload_n hx hb dX3_begin_8 rfl (lv_at hl 3 rfl) ?_
  refine gf_X3_22 hx hb hC hw 1 rfl rfl dX3_begin_9 ?_
  refine r_icmp_ge (tgt := 59) hx hb dX3_begin_12 (by decide) (by decide) (by decide) (fun hbr17 => ?_) (fun hbr17 => (by exfalso; omega))
  exact r_vret hx hb hr hlk hw [(h4, .inr (4, [.ref oc4, .ref ob4, .int (iI 0)])), (h0, .inr (7, [.ref c0, .ref k0, .ref p0, .ref o0, .ref f0, .ref g0, .int (iI 0), .int (iI 0), .int (iI ac0), .int (iI ec0), .int (iI stp0)])), (h8, .inr (9, [.ref d8, .int (iI 4), .int (iI cor8), .int (iI dig8)]))] [0, 2, 1] rfl (by decide) ⟨trivial, rfl⟩ dX3_begin_59
abbrev W_c_Ord_markBest (τ : Nat → ClassId) (h4 : Nat) (oc4 : Nat) (ob4 : Nat) (osz4 : Int) (og1 : Int → Int) (og2 : Int → Int) : va_W := [(h4, .inr (4, [.ref oc4, .ref ob4, .int (iI osz4)])), (oc4, .inl (τ 0, 6, .inl (ar og1))), (ob4, .inl (τ 0, 6, .inl (ar og2)))]
abbrev E_c_Ord_markBest (τ : Nat → ClassId) (h4 : Nat) (oc4 : Nat) (ob4 : Nat) (osz4 : Int) (og1 : Int → Int) (og2 : Int → Int) : va_W → Prop := fun w => (True) ∧ w = [(h4, .inr (4, [.ref oc4, .ref ob4, .int (iI osz4)])), (oc4, .inl (τ 0, 6, .inl (ar og1))), (ob4, .inl (τ 0, 6, .inl (ar (cpy og1 og2 6))))]
set_option maxHeartbeats 4000000 in
set_option maxRecDepth 100000 in
theorem c_Ord_markBest (l : Launch) (D : va_G) (τ : Nat → ClassId) (sz : Nat) (h4 : Nat) (oc4 : Nat) (ob4 : Nat) (osz4 : Int) (og1 : Int → Int) (og2 : Int → Int)  : Met l yX3_markBest (lw_w yX3_markBest cX3_markBest 1 none) (rmk 1 0 0) (gPc D τ (W_c_Ord_markBest τ h4 oc4 ob4 osz4 og1 og2) sz [.ref h4]) (gQv D (E_c_Ord_markBest τ h4 oc4 ob4 osz4 og1 og2) (va_A (W_c_Ord_markBest τ h4 oc4 ob4 osz4 og1 og2) sz)) 0 0 (va_A (W_c_Ord_markBest τ h4 oc4 ob4 osz4 og1 og2) sz) := by
  refine g_met (ret := none) (Qc := gQv D (E_c_Ord_markBest τ h4 oc4 ob4 osz4 og1 og2)) (by decide +kernel) (Nat.le_of_ble_eq_true rfl) ?_
  intro p e s m args below meth c A ls hx hb hml hr hlk hnm hC hA hw hl
  have hC : cx D τ s m args RX3 := hC
  have hl : lv_has ls 1 [(0, .ref h4)] := hl
  have hw : wS D A s.heap [(h4, .inr (4, [.ref oc4, .ref ob4, .int (iI osz4)])), (oc4, .inl (τ 0, 6, .inl (ar og1))), (ob4, .inl (τ 0, 6, .inl (ar og2)))] s.heap [] := hw
  refine lv_aload_n hx hb dX3_markBest_0 rfl (lv_at hl 0 rfl) ?_
  refine gf_X3_9 hx hb hC hw 0 rfl rfl dX3_markBest_1 ?_
  refine r_iconst hx hb dX3_markBest_4 ?_
  refine lv_aload_n hx hb dX3_markBest_5 rfl (lv_at hl 0 rfl) ?_
  refine gf_X3_15 hx hb hC hw 0 rfl rfl dX3_markBest_6 ?_
  refine r_iconst hx hb dX3_markBest_9 ?_
  refine r_bipush hx hb dX3_markBest_10 (by decide +kernel) ?_
  refine r_copy (ws' := [(h4, .inr (4, [.ref oc4, .ref ob4, .int (iI osz4)])), (oc4, .inl (τ 0, 6, .inl (ar og1))), (ob4, .inl (τ 0, 6, .inl (ar (cpy og1 og2 6))))]) hx hb hml hC hl.1 ml_X3_32 nm_arraycopy sm_arraycopy in_J10 hw 1 2 rfl rfl (by decide) (by decide) (by decide) (by decide) rfl (by decide) (Nat.le_of_ble_eq_true rfl) (by decide) dX3_markBest_12 (fun H locs hw => ?_)
  exact r_vret hx hb hr hlk hw [(h4, .inr (4, [.ref oc4, .ref ob4, .int (iI osz4)])), (oc4, .inl (τ 0, 6, .inl (ar og1))), (ob4, .inl (τ 0, 6, .inl (ar (cpy og1 og2 6))))] [0, 1, 2] rfl (by decide) ⟨trivial, rfl⟩ dX3_markBest_15
abbrev W_c_Ord_toNext0 (τ : Nat → ClassId) (h4 : Nat) (oc4 : Nat) (ob4 : Nat) : va_W := [(h4, .inr (4, [.ref oc4, .ref ob4, .int (iI 0)]))]
abbrev E_c_Ord_toNext0 (τ : Nat → ClassId) (h4 : Nat) (oc4 : Nat) (ob4 : Nat) : Int → va_W → Prop := fun z w => (z = 0) ∧ w = [(h4, .inr (4, [.ref oc4, .ref ob4, .int (iI 0)]))]
set_option maxHeartbeats 4000000 in
set_option maxRecDepth 100000 in
theorem c_Ord_toNext0 (l : Launch) (D : va_G) (τ : Nat → ClassId) (sz : Nat) (h4 : Nat) (oc4 : Nat) (ob4 : Nat)  : Met l yX3_toNext (lw_w yX3_toNext cX3_toNext 5 (some .boolean)) (rmk 1 0 0) (gPc D τ (W_c_Ord_toNext0 τ h4 oc4 ob4) sz [.ref h4]) (gQi D (E_c_Ord_toNext0 τ h4 oc4 ob4) (va_A (W_c_Ord_toNext0 τ h4 oc4 ob4) sz)) 0 0 (va_A (W_c_Ord_toNext0 τ h4 oc4 ob4) sz) := by
  refine g_met (ret := (some .boolean)) (Qc := gQi D (E_c_Ord_toNext0 τ h4 oc4 ob4)) (by decide +kernel) (Nat.le_of_ble_eq_true rfl) ?_
  intro p e s m args below meth c A ls hx hb hml hr hlk hnm hC hA hw hl
  have hC : cx D τ s m args RX3 := hC
  have hl : lv_has ls 5 [(0, .ref h4)] := hl
  have hw : wS D A s.heap [(h4, .inr (4, [.ref oc4, .ref ob4, .int (iI 0)]))] s.heap [] := hw
  refine lv_aload_n hx hb dX3_toNext_0 rfl (lv_at hl 0 rfl) ?_
  refine gf_X3_18 hx hb hC hw 0 rfl rfl dX3_toNext_1 ?_
  refine r_iconst hx hb dX3_toNext_4 ?_
  refine r_isub (z := (-2)) hx hb dX3_toNext_5 rfl ?_
  refine lv_istore_n (lv' := [(1, .int (iI (-2))), (0, .ref h4)]) hx hb dX3_toNext_6 rfl hl (by decide) rfl (fun ls hl => ?_)
  refine lv_iload_n hx hb dX3_toNext_7 rfl (lv_at hl 0 rfl) ?_
  refine r_if_lt (tgt := 34) hx hb dX3_toNext_8 (by decide) (by decide) (fun hbr1 => ?_) (fun hbr1 => (by exfalso; omega))
  refine lv_iload_n hx hb dX3_toNext_34 rfl (lv_at hl 0 rfl) ?_
  refine r_if_ge (tgt := 40) hx hb dX3_toNext_35 (by decide) (by decide) (fun hbr2 => (by exfalso; omega)) (fun hbr2 => ?_)
  refine r_iconst hx hb dX3_toNext_38 ?_
  exact r_zret (z := 0) hx hb hr hlk hw [(h4, .inr (4, [.ref oc4, .ref ob4, .int (iI 0)]))] [0] rfl (by decide) (by decide) (by decide) ⟨(by omega), rfl⟩ dX3_toNext_39
abbrev W_c_Read_init (τ : Nat → ClassId) (h5 : Nat) : va_W := [(h5, .inr (6, [.null, .int (iI 0), .int (iI 0), .int (iI 0)]))]
abbrev E_c_Read_init (τ : Nat → ClassId) (h5 : Nat) : va_W → Prop := fun w => ∃ (rw5 : Nat), (True) ∧ w = [(h5, .inr (6, [.ref rw5, .int (iI 0), .int (iI 0), .int (iI 1)])), (rw5, .inl (τ 0, 40, .inl (ar (fun _ => 0))))]
set_option maxHeartbeats 4000000 in
set_option maxRecDepth 100000 in
theorem c_Read_init (l : Launch) (D : va_G) (τ : Nat → ClassId) (sz : Nat) (h5 : Nat)  : Met l yX5_init (lw_w yX5_init cX5_init 1 none) (rmk 1 1 40) (gPc D τ (W_c_Read_init τ h5) sz [.ref h5]) (gQv D (E_c_Read_init τ h5) (va_A (W_c_Read_init τ h5) sz)) 1 40 (va_A (W_c_Read_init τ h5) sz) := by
  refine g_met (ret := none) (Qc := gQv D (E_c_Read_init τ h5)) (by decide +kernel) (Nat.le_of_ble_eq_true rfl) ?_
  intro p e s m args below meth c A ls hx hb hml hr hlk hnm hC hA hw hl
  have hC : cx D τ s m args RX5 := hC
  have hl : lv_has ls 1 [(0, .ref h5)] := hl
  have hw : wS D A s.heap [(h5, .inr (6, [.null, .int (iI 0), .int (iI 0), .int (iI 0)]))] s.heap [] := hw
  refine lv_aload_n hx hb dX5_init_0 rfl (lv_at hl 0 rfl) ?_
  refine r_objInit hx hb hml hC hl.1 ml_X5_3 im_init cd_init (by decide) (Nat.le_of_ble_eq_true rfl) (by decide) dX5_init_1 ?_
  refine lv_aload_n hx hb dX5_init_4 rfl (lv_at hl 0 rfl) ?_
  refine r_bipush hx hb dX5_init_5 (by decide +kernel) ?_
  refine r_newi (N := 40) hx hb hC hA hw ac_int (by decide) (by decide) (by decide) (by decide) rfl rfl dX5_init_7 (fun a1 H hw => ?_)
  have hw : wS D A s.heap [(h5, .inr (6, [.null, .int (iI 0), .int (iI 0), .int (iI 0)])), (a1, .inl (τ 0, 40, .inl (ar (fun _ => 0))))] H _ := hw
  refine pf_X5_9 (ws' := [(h5, .inr (6, [.ref a1, .int (iI 0), .int (iI 0), .int (iI 0)])), (a1, .inl (τ 0, 40, .inl (ar (fun _ => 0))))]) hx hb hC hw hnm 0 rfl (Nat.le_of_ble_eq_true rfl) rfl dX5_init_9 (fun H locs hw => ?_)
  refine lv_aload_n hx hb dX5_init_12 rfl (lv_at hl 0 rfl) ?_
  refine r_iconst hx hb dX5_init_13 ?_
  refine pf_X5_15 (ws' := [(h5, .inr (6, [.ref a1, .int (iI 0), .int (iI 0), .int (iI 0)])), (a1, .inl (τ 0, 40, .inl (ar (fun _ => 0))))]) hx hb hC hw 0 rfl (Nat.le_of_ble_eq_true rfl) rfl dX5_init_14 (fun H locs hw => ?_)
  refine lv_aload_n hx hb dX5_init_17 rfl (lv_at hl 0 rfl) ?_
  refine r_iconst hx hb dX5_init_18 ?_
  refine pf_X5_19 (ws' := [(h5, .inr (6, [.ref a1, .int (iI 0), .int (iI 0), .int (iI 0)])), (a1, .inl (τ 0, 40, .inl (ar (fun _ => 0))))]) hx hb hC hw 0 rfl (Nat.le_of_ble_eq_true rfl) rfl dX5_init_19 (fun H locs hw => ?_)
  refine lv_aload_n hx hb dX5_init_22 rfl (lv_at hl 0 rfl) ?_
  refine r_iconst hx hb dX5_init_23 ?_
  refine pf_X5_22 (ws' := [(h5, .inr (6, [.ref a1, .int (iI 0), .int (iI 0), .int (iI 1)])), (a1, .inl (τ 0, 40, .inl (ar (fun _ => 0))))]) hx hb hC hw 0 (by decide) rfl (Nat.le_of_ble_eq_true rfl) rfl dX5_init_24 (fun H locs hw => ?_)
  exact r_vret hx hb hr hlk hw [(h5, .inr (6, [.ref a1, .int (iI 0), .int (iI 0), .int (iI 1)])), (a1, .inl (τ 0, 40, .inl (ar (fun _ => 0))))] [0, 1] rfl (by decide) ⟨a1, trivial, rfl⟩ dX5_init_27
abbrev W_c_Read_read0 (τ : Nat → ClassId) (h5 : Nat) (rw5 : Nat) (h0 : Nat) (a0 : Nat) (wc5 : Int) (dp5 : Int) (wt5 : Int) (at0 : Int) (stop : Int) (h2 : Nat) (ka2 : Nat) (va2 : Nat) (sa2 : Nat) (ga2 : Nat) (siz2 : Int) (let2 : Int) (kn2 : Int → Int) (vn2 : Int → Int) : va_W := [(h5, .inr (6, [.ref rw5, .int (iI wc5), .int (iI dp5), .int (iI wt5)])), (h0, .inr (10, [.ref a0, .int (iI 0), .int (iI at0), .int (iI stop)])), (h2, .inr (3, [.ref ka2, .ref va2, .ref sa2, .ref ga2, .int (iI siz2), .int (iI let2)])), (ka2, .inl (τ 0, 40, .inl (ar kn2))), (va2, .inl (τ 0, 40, .inl (ar vn2)))]
abbrev E_c_Read_read0 (τ : Nat → ClassId) (h5 : Nat) (rw5 : Nat) (h0 : Nat) (a0 : Nat) (wc5 : Int) (dp5 : Int) (wt5 : Int) (at0 : Int) (stop : Int) (h2 : Nat) (ka2 : Nat) (va2 : Nat) (sa2 : Nat) (ga2 : Nat) (siz2 : Int) (let2 : Int) (kn2 : Int → Int) (vn2 : Int → Int) : Int → va_W → Prop := fun z w => ∃ (siz3 : Int), ∃ (kn3 : Int → Int), ∃ (vn3 : Int → Int), (z = -1) ∧ w = [(h5, .inr (6, [.ref rw5, .int (iI wc5), .int (iI dp5), .int (iI wt5)])), (h0, .inr (10, [.ref a0, .int (iI 0), .int (iI at0), .int (iI stop)])), (h2, .inr (3, [.ref ka2, .ref va2, .ref sa2, .ref ga2, .int (iI siz3), .int (iI 2)])), (ka2, .inl (τ 0, 40, .inl (ar kn3))), (va2, .inl (τ 0, 40, .inl (ar vn3)))]
set_option maxHeartbeats 4000000 in
set_option maxRecDepth 100000 in
theorem c_Read_read0 (l : Launch) (D : va_G) (τ : Nat → ClassId) (sz : Nat) (h5 : Nat) (rw5 : Nat) (h0 : Nat) (a0 : Nat) (wc5 : Int) (dp5 : Int) (wt5 : Int) (at0 : Int) (stop : Int) (h2 : Nat) (ka2 : Nat) (va2 : Nat) (sa2 : Nat) (ga2 : Nat) (siz2 : Int) (let2 : Int) (kn2 : Int → Int) (vn2 : Int → Int)  : Met l yX5_read (lw_w yX5_read cX5_read 4 (some .int)) (rmk 4 0 0) (gPc D τ (W_c_Read_read0 τ h5 rw5 h0 a0 wc5 dp5 wt5 at0 stop h2 ka2 va2 sa2 ga2 siz2 let2 kn2 vn2) sz [.ref h5, .ref h0, .ref h2]) (gQi D (E_c_Read_read0 τ h5 rw5 h0 a0 wc5 dp5 wt5 at0 stop h2 ka2 va2 sa2 ga2 siz2 let2 kn2 vn2) (va_A (W_c_Read_read0 τ h5 rw5 h0 a0 wc5 dp5 wt5 at0 stop h2 ka2 va2 sa2 ga2 siz2 let2 kn2 vn2) sz)) 0 0 (va_A (W_c_Read_read0 τ h5 rw5 h0 a0 wc5 dp5 wt5 at0 stop h2 ka2 va2 sa2 ga2 siz2 let2 kn2 vn2) sz) := by
  refine g_met (ret := (some .int)) (Qc := gQi D (E_c_Read_read0 τ h5 rw5 h0 a0 wc5 dp5 wt5 at0 stop h2 ka2 va2 sa2 ga2 siz2 let2 kn2 vn2)) (by decide +kernel) (Nat.le_of_ble_eq_true rfl) ?_
  intro p e s m args below meth c A ls hx hb hml hr hlk hnm hC hA hw hl
  have hC : cx D τ s m args RX5 := hC
  have hl : lv_has ls 4 [(0, .ref h5), (1, .ref h0), (2, .ref h2)] := hl
  have hw : wS D A s.heap [(h5, .inr (6, [.ref rw5, .int (iI wc5), .int (iI dp5), .int (iI wt5)])), (h0, .inr (10, [.ref a0, .int (iI 0), .int (iI at0), .int (iI stop)])), (h2, .inr (3, [.ref ka2, .ref va2, .ref sa2, .ref ga2, .int (iI siz2), .int (iI let2)])), (ka2, .inl (τ 0, 40, .inl (ar kn2))), (va2, .inl (τ 0, 40, .inl (ar vn2)))] s.heap [] := hw
  refine lv_aload_n hx hb dX5_read_0 rfl (lv_at hl 1 rfl) ?_
  refine g_cVi (wr := [(h5, .inr (6, [.ref rw5, .int (iI wc5), .int (iI dp5), .int (iI wt5)])), (h2, .inr (3, [.ref ka2, .ref va2, .ref sa2, .ref ga2, .int (iI siz2), .int (iI let2)])), (ka2, .inl (τ 0, 40, .inl (ar kn2))), (va2, .inl (τ 0, 40, .inl (ar vn2)))]) (q0 := 0) (ci := 10) hx hb hml hC hA hw hl.1 (c_Text_isEmpty l D τ _ h0 a0 0 at0 stop (by omega)) kX9_isEmpty ml_X5_26 [1] [0, 2, 3, 4] rfl rfl (by decide) (by decide) (by decide) rfl rfl rfl rfl (Nat.le_of_ble_eq_true rfl) ⟨by decide, by decide⟩ ⟨by decide, by decide⟩ rfl rfl dX5_read_1 (fun z1 w1 H locs hz1 hE1 hw => ?_)
  obtain ⟨hq1, rfl⟩ := hE1
  have hw : wS D A s.heap [(h5, .inr (6, [.ref rw5, .int (iI wc5), .int (iI dp5), .int (iI wt5)])), (h2, .inr (3, [.ref ka2, .ref va2, .ref sa2, .ref ga2, .int (iI siz2), .int (iI let2)])), (ka2, .inl (τ 0, 40, .inl (ar kn2))), (va2, .inl (τ 0, 40, .inl (ar vn2))), (h0, .inr (10, [.ref a0, .int (iI 0), .int (iI at0), .int (iI stop)]))] H locs := hw
  refine r_if_eq (tgt := 13) hx hb dX5_read_4 (by decide) (by omega) (fun hbr2 => (by exfalso; omega)) (fun hbr2 => ?_)
  refine lv_aload_n hx hb dX5_read_7 rfl (lv_at hl 2 rfl) ?_
  refine g_cVv (wr := [(h5, .inr (6, [.ref rw5, .int (iI wc5), .int (iI dp5), .int (iI wt5)])), (h0, .inr (10, [.ref a0, .int (iI 0), .int (iI at0), .int (iI stop)]))]) (q0 := 0) (ci := 3) hx hb hml hC hA hw hl.1 (c_Law_becomePlain l D τ _ h2 ka2 va2 sa2 ga2 siz2 let2 kn2 vn2 ) kX2_becomePlain ml_X5_32 [1, 2, 3] [0, 4] rfl rfl (by decide) (by decide) (by decide) rfl rfl rfl rfl (Nat.le_of_ble_eq_true rfl) ⟨by decide, by decide⟩ ⟨by decide, by decide⟩ rfl rfl dX5_read_8 (fun w3 H locs hE3 hw => ?_)
  obtain ⟨siz3_3, kn3_3, vn3_3, hq3, rfl⟩ := hE3
  have hw : wS D A s.heap [(h5, .inr (6, [.ref rw5, .int (iI wc5), .int (iI dp5), .int (iI wt5)])), (h0, .inr (10, [.ref a0, .int (iI 0), .int (iI at0), .int (iI stop)])), (h2, .inr (3, [.ref ka2, .ref va2, .ref sa2, .ref ga2, .int (iI siz3_3), .int (iI 2)])), (ka2, .inl (τ 0, 40, .inl (ar kn3_3))), (va2, .inl (τ 0, 40, .inl (ar vn3_3)))] H locs := hw
  refine r_iconst hx hb dX5_read_11 ?_
  exact r_iret (z := (-1)) hx hb hr hlk hw [(h5, .inr (6, [.ref rw5, .int (iI wc5), .int (iI dp5), .int (iI wt5)])), (h0, .inr (10, [.ref a0, .int (iI 0), .int (iI at0), .int (iI stop)])), (h2, .inr (3, [.ref ka2, .ref va2, .ref sa2, .ref ga2, .int (iI siz3_3), .int (iI 2)])), (ka2, .inl (τ 0, 40, .inl (ar kn3_3))), (va2, .inl (τ 0, 40, .inl (ar vn3_3)))] [0, 1, 2, 3, 4] rfl (by decide) (by decide) ⟨siz3_3, kn3_3, vn3_3, (by omega), rfl⟩ dX5_read_12
abbrev W_c_Walk_init (τ : Nat → ClassId) (h6 : Nat) (h8 : Nat) : va_W := [(h6, .inr (11, [.null, .null, .null, .int (iI 0), .int (iI 0), .int (iI 0)]))]
abbrev E_c_Walk_init (τ : Nat → ClassId) (h6 : Nat) (h8 : Nat) : va_W → Prop := fun w => ∃ (ww6 : Nat), ∃ (wt6 : Nat), (True) ∧ w = [(h6, .inr (11, [.ref h8, .ref ww6, .ref wt6, .int (iI 0), .int (iI 0), .int (iI 0)])), (ww6, .inl (τ 0, 30, .inl (ar (fun _ => 0)))), (wt6, .inl (τ 0, 8, .inl (ar (fun _ => 0))))]
set_option maxHeartbeats 4000000 in
set_option maxRecDepth 100000 in
theorem c_Walk_init (l : Launch) (D : va_G) (τ : Nat → ClassId) (sz : Nat) (h6 : Nat) (h8 : Nat)  : Met l yX10_init (lw_w yX10_init cX10_init 2 none) (rmk 1 2 38) (gPc D τ (W_c_Walk_init τ h6 h8) sz [.ref h6, .ref h8]) (gQv D (E_c_Walk_init τ h6 h8) (va_A (W_c_Walk_init τ h6 h8) sz)) 2 38 (va_A (W_c_Walk_init τ h6 h8) sz) := by
  refine g_met (ret := none) (Qc := gQv D (E_c_Walk_init τ h6 h8)) (by decide +kernel) (Nat.le_of_ble_eq_true rfl) ?_
  intro p e s m args below meth c A ls hx hb hml hr hlk hnm hC hA hw hl
  have hC : cx D τ s m args RX10 := hC
  have hl : lv_has ls 2 [(0, .ref h6), (1, .ref h8)] := hl
  have hw : wS D A s.heap [(h6, .inr (11, [.null, .null, .null, .int (iI 0), .int (iI 0), .int (iI 0)]))] s.heap [] := hw
  refine lv_aload_n hx hb dX10_init_0 rfl (lv_at hl 0 rfl) ?_
  refine r_objInit hx hb hml hC hl.1 ml_X10_3 im_init cd_init (by decide) (Nat.le_of_ble_eq_true rfl) (by decide) dX10_init_1 ?_
  refine lv_aload_n hx hb dX10_init_4 rfl (lv_at hl 0 rfl) ?_
  refine r_bipush hx hb dX10_init_5 (by decide +kernel) ?_
  refine r_newi (N := 30) hx hb hC hA hw ac_int (by decide) (by decide) (by decide) (by decide) rfl rfl dX10_init_7 (fun a1 H hw => ?_)
  have hw : wS D A s.heap [(h6, .inr (11, [.null, .null, .null, .int (iI 0), .int (iI 0), .int (iI 0)])), (a1, .inl (τ 0, 30, .inl (ar (fun _ => 0))))] H _ := hw
  refine pf_X10_9 (ws' := [(h6, .inr (11, [.null, .ref a1, .null, .int (iI 0), .int (iI 0), .int (iI 0)])), (a1, .inl (τ 0, 30, .inl (ar (fun _ => 0))))]) hx hb hC hw hnm 0 rfl (Nat.le_of_ble_eq_true rfl) rfl dX10_init_9 (fun H locs hw => ?_)
  refine lv_aload_n hx hb dX10_init_12 rfl (lv_at hl 0 rfl) ?_
  refine r_bipush hx hb dX10_init_13 (by decide +kernel) ?_
  refine r_newi (N := 8) hx hb hC hA hw ac_int (by decide) (by decide) (by decide) (by decide) rfl rfl dX10_init_15 (fun a2 H hw => ?_)
  have hw : wS D A s.heap [(h6, .inr (11, [.null, .ref a1, .null, .int (iI 0), .int (iI 0), .int (iI 0)])), (a1, .inl (τ 0, 30, .inl (ar (fun _ => 0)))), (a2, .inl (τ 0, 8, .inl (ar (fun _ => 0))))] H _ := hw
  refine pf_X10_15 (ws' := [(h6, .inr (11, [.null, .ref a1, .ref a2, .int (iI 0), .int (iI 0), .int (iI 0)])), (a1, .inl (τ 0, 30, .inl (ar (fun _ => 0)))), (a2, .inl (τ 0, 8, .inl (ar (fun _ => 0))))]) hx hb hC hw hnm 0 rfl (Nat.le_of_ble_eq_true rfl) rfl dX10_init_17 (fun H locs hw => ?_)
  refine lv_aload_n hx hb dX10_init_20 rfl (lv_at hl 0 rfl) ?_
  refine r_iconst hx hb dX10_init_21 ?_
  refine pf_X10_18 (ws' := [(h6, .inr (11, [.null, .ref a1, .ref a2, .int (iI 0), .int (iI 0), .int (iI 0)])), (a1, .inl (τ 0, 30, .inl (ar (fun _ => 0)))), (a2, .inl (τ 0, 8, .inl (ar (fun _ => 0))))]) hx hb hC hw 0 rfl (Nat.le_of_ble_eq_true rfl) rfl dX10_init_22 (fun H locs hw => ?_)
  refine lv_aload_n hx hb dX10_init_25 rfl (lv_at hl 0 rfl) ?_
  refine r_iconst hx hb dX10_init_26 ?_
  refine pf_X10_22 (ws' := [(h6, .inr (11, [.null, .ref a1, .ref a2, .int (iI 0), .int (iI 0), .int (iI 0)])), (a1, .inl (τ 0, 30, .inl (ar (fun _ => 0)))), (a2, .inl (τ 0, 8, .inl (ar (fun _ => 0))))]) hx hb hC hw 0 rfl (Nat.le_of_ble_eq_true rfl) rfl dX10_init_27 (fun H locs hw => ?_)
  refine lv_aload_n hx hb dX10_init_30 rfl (lv_at hl 0 rfl) ?_
  refine r_iconst hx hb dX10_init_31 ?_
  refine pf_X10_25 (ws' := [(h6, .inr (11, [.null, .ref a1, .ref a2, .int (iI 0), .int (iI 0), .int (iI 0)])), (a1, .inl (τ 0, 30, .inl (ar (fun _ => 0)))), (a2, .inl (τ 0, 8, .inl (ar (fun _ => 0))))]) hx hb hC hw 0 (by decide) rfl (Nat.le_of_ble_eq_true rfl) rfl dX10_init_32 (fun H locs hw => ?_)
  refine lv_aload_n hx hb dX10_init_35 rfl (lv_at hl 0 rfl) ?_
  refine lv_aload_n hx hb dX10_init_36 rfl (lv_at hl 1 rfl) ?_
  refine pf_X10_29 (ws' := [(h6, .inr (11, [.ref h8, .ref a1, .ref a2, .int (iI 0), .int (iI 0), .int (iI 0)])), (a1, .inl (τ 0, 30, .inl (ar (fun _ => 0)))), (a2, .inl (τ 0, 8, .inl (ar (fun _ => 0))))]) hx hb hC hw hnm 0 rfl (Nat.le_of_ble_eq_true rfl) rfl dX10_init_37 (fun H locs hw => ?_)
  exact r_vret hx hb hr hlk hw [(h6, .inr (11, [.ref h8, .ref a1, .ref a2, .int (iI 0), .int (iI 0), .int (iI 0)])), (a1, .inl (τ 0, 30, .inl (ar (fun _ => 0)))), (a2, .inl (τ 0, 8, .inl (ar (fun _ => 0))))] [0, 1, 2] rfl (by decide) ⟨a1, a2, trivial, rfl⟩ dX10_init_40
abbrev W_c_Walk_forget (τ : Nat → ClassId) (h6 : Nat) (h8 : Nat) (ww6 : Nat) (wt6 : Nat) (wai6 : Int) (cha6 : Int) (sti6 : Int) (wg6 : Int → Int) (tg6 : Int → Int) : va_W := [(h6, .inr (11, [.ref h8, .ref ww6, .ref wt6, .int (iI wai6), .int (iI cha6), .int (iI sti6)])), (ww6, .inl (τ 0, 30, .inl (ar wg6))), (wt6, .inl (τ 0, 8, .inl (ar tg6)))]
abbrev E_c_Walk_forget (τ : Nat → ClassId) (h6 : Nat) (h8 : Nat) (ww6 : Nat) (wt6 : Nat) (wai6 : Int) (cha6 : Int) (sti6 : Int) (wg6 : Int → Int) (tg6 : Int → Int) : va_W → Prop := fun w => ∃ (wg7 : Int → Int), ∃ (tg7 : Int → Int), ((∀ j : Int, 0 ≤ j → j < 30 → wg7 j = 0)) ∧ w = [(h6, .inr (11, [.ref h8, .ref ww6, .ref wt6, .int (iI 0), .int (iI 0), .int (iI sti6)])), (ww6, .inl (τ 0, 30, .inl (ar wg7))), (wt6, .inl (τ 0, 8, .inl (ar tg7)))]
set_option maxHeartbeats 4000000 in
set_option maxRecDepth 100000 in
theorem c_Walk_forget (l : Launch) (D : va_G) (τ : Nat → ClassId) (sz : Nat) (h6 : Nat) (h8 : Nat) (ww6 : Nat) (wt6 : Nat) (wai6 : Int) (cha6 : Int) (sti6 : Int) (wg6 : Int → Int) (tg6 : Int → Int)  : Met l yX10_forgetTallies (lw_w yX10_forgetTallies cX10_forgetTallies 2 none) (rmk 1 0 0) (gPc D τ (W_c_Walk_forget τ h6 h8 ww6 wt6 wai6 cha6 sti6 wg6 tg6) sz [.ref h6]) (gQv D (E_c_Walk_forget τ h6 h8 ww6 wt6 wai6 cha6 sti6 wg6 tg6) (va_A (W_c_Walk_forget τ h6 h8 ww6 wt6 wai6 cha6 sti6 wg6 tg6) sz)) 0 0 (va_A (W_c_Walk_forget τ h6 h8 ww6 wt6 wai6 cha6 sti6 wg6 tg6) sz) := by
  refine g_met (ret := none) (Qc := gQv D (E_c_Walk_forget τ h6 h8 ww6 wt6 wai6 cha6 sti6 wg6 tg6)) (by decide +kernel) (Nat.le_of_ble_eq_true rfl) ?_
  intro p e s m args below meth c A ls hx hb hml hr hlk hnm hC hA hw hl
  have hC : cx D τ s m args RX10 := hC
  have hl : lv_has ls 2 [(0, .ref h6)] := hl
  have hw : wS D A s.heap [(h6, .inr (11, [.ref h8, .ref ww6, .ref wt6, .int (iI wai6), .int (iI cha6), .int (iI sti6)])), (ww6, .inl (τ 0, 30, .inl (ar wg6))), (wt6, .inl (τ 0, 8, .inl (ar tg6)))] s.heap [] := hw
  refine lv_aload_n hx hb dX10_forgetTallies_0 rfl (lv_at hl 0 rfl) ?_
  refine r_iconst hx hb dX10_forgetTallies_1 ?_
  refine pf_X10_18 (ws' := [(h6, .inr (11, [.ref h8, .ref ww6, .ref wt6, .int (iI 0), .int (iI cha6), .int (iI sti6)])), (ww6, .inl (τ 0, 30, .inl (ar wg6))), (wt6, .inl (τ 0, 8, .inl (ar tg6)))]) hx hb hC hw 0 rfl (Nat.le_of_ble_eq_true rfl) rfl dX10_forgetTallies_2 (fun H locs hw => ?_)
  refine lv_aload_n hx hb dX10_forgetTallies_5 rfl (lv_at hl 0 rfl) ?_
  refine r_iconst hx hb dX10_forgetTallies_6 ?_
  refine pf_X10_22 (ws' := [(h6, .inr (11, [.ref h8, .ref ww6, .ref wt6, .int (iI 0), .int (iI 0), .int (iI sti6)])), (ww6, .inl (τ 0, 30, .inl (ar wg6))), (wt6, .inl (τ 0, 8, .inl (ar tg6)))]) hx hb hC hw 0 rfl (Nat.le_of_ble_eq_true rfl) rfl dX10_forgetTallies_7 (fun H locs hw => ?_)
  refine r_iconst hx hb dX10_forgetTallies_10 ?_
  refine lv_istore_n (lv' := [(1, .int (iI 0)), (0, .ref h6)]) hx hb dX10_forgetTallies_11 rfl hl (by decide) rfl (fun ls hl => ?_)
  have L12 : ∀ (n : Nat) (i12 : Int) (w12 : Int → Int) (H : Heap) (locs : List Loc) (ls : Array Slot), (0 ≤ i12 ∧ i12 ≤ 30) → (∀ j : Int, 0 ≤ j → j < i12 → w12 j = 0) → ((30 - i12).toNat < n) → wS D A s.heap [(h6, .inr (11, [.ref h8, .ref ww6, .ref wt6, .int (iI 0), .int (iI 0), .int (iI sti6)])), (ww6, .inl (τ 0, 30, .inl (ar w12))), (wt6, .inl (τ 0, 8, .inl (ar tg6)))] H locs → lv_has ls 2 [(0, .ref h6), (1, .int (iI i12))] → W p l e (rmk 1 0 0) s m args below meth c H locs 0 0 (MQ below (gQv D (E_c_Walk_forget τ h6 h8 ww6 wt6 wai6 cha6 sti6 wg6 tg6) A) args s 0 0 A) (F0 m 12 ls []) := by
    intro n12
    induction n12 with
    | zero => intro i12 w12 H locs ls hi12_0 hi12_1 hm12; exact absurd hm12 (Nat.not_lt_zero _)
    | succ n12 ih12 =>
      intro i12 w12 H locs ls hi12_0 hi12_1 hm12 hw hl
      refine lv_iload_n hx hb dX10_forgetTallies_12 rfl (lv_at hl 1 rfl) ?_
      refine r_bipush hx hb dX10_forgetTallies_13 (by decide +kernel) ?_
      refine r_icmp_ge (tgt := 31) hx hb dX10_forgetTallies_15 (by decide) (by omega) (by decide) (fun hbr1 => ?_) (fun hbr1 => ?_)
      · skip
        have hz31 : ∀ j : Int, 0 ≤ j → j < 30 → w12 j = 0 := fun j h1 h2 => hi12_1 j h1 (by omega)
        refine r_iconst hx hb dX10_forgetTallies_31 ?_
        refine lv_istore_n (lv' := [(1, .int (iI 0)), (0, .ref h6)]) hx hb dX10_forgetTallies_32 rfl hl (by decide) rfl (fun ls hl => ?_)
        have L33 : ∀ (n : Nat) (i33 : Int) (t33 : Int → Int) (H : Heap) (locs : List Loc) (ls : Array Slot), (0 ≤ i33 ∧ i33 ≤ 8) → ((8 - i33).toNat < n) → wS D A s.heap [(h6, .inr (11, [.ref h8, .ref ww6, .ref wt6, .int (iI 0), .int (iI 0), .int (iI sti6)])), (ww6, .inl (τ 0, 30, .inl (ar w12))), (wt6, .inl (τ 0, 8, .inl (ar t33)))] H locs → lv_has ls 2 [(0, .ref h6), (1, .int (iI i33))] → W p l e (rmk 1 0 0) s m args below meth c H locs 0 0 (MQ below (gQv D (E_c_Walk_forget τ h6 h8 ww6 wt6 wai6 cha6 sti6 wg6 tg6) A) args s 0 0 A) (F0 m 33 ls []) := by
          intro n33
          induction n33 with
          | zero => intro i33 t33 H locs ls hi33_0 hm33; exact absurd hm33 (Nat.not_lt_zero _)
          | succ n33 ih33 =>
            intro i33 t33 H locs ls hi33_0 hm33 hw hl
            refine lv_iload_n hx hb dX10_forgetTallies_33 rfl (lv_at hl 1 rfl) ?_
            refine r_bipush hx hb dX10_forgetTallies_34 (by decide +kernel) ?_
            refine r_icmp_ge (tgt := 52) hx hb dX10_forgetTallies_36 (by decide) (by omega) (by decide) (fun hbr2 => ?_) (fun hbr2 => ?_)
            · skip
              exact r_vret hx hb hr hlk hw [(h6, .inr (11, [.ref h8, .ref ww6, .ref wt6, .int (iI 0), .int (iI 0), .int (iI sti6)])), (ww6, .inl (τ 0, 30, .inl (ar w12))), (wt6, .inl (τ 0, 8, .inl (ar t33)))] [0, 1, 2] rfl (by decide) ⟨w12, t33, (by exact hz31), rfl⟩ dX10_forgetTallies_52
            · skip
              refine lv_aload_n hx hb dX10_forgetTallies_39 rfl (lv_at hl 0 rfl) ?_
              refine gf_X10_15 hx hb hC hw 0 rfl rfl dX10_forgetTallies_40 ?_
              refine lv_iload_n hx hb dX10_forgetTallies_43 rfl (lv_at hl 1 rfl) ?_
              refine r_iconst hx hb dX10_forgetTallies_44 ?_
              refine r_iast (ws' := [(h6, .inr (11, [.ref h8, .ref ww6, .ref wt6, .int (iI 0), .int (iI 0), .int (iI sti6)])), (ww6, .inl (τ 0, 30, .inl (ar w12))), (wt6, .inl (τ 0, 8, .inl (ar (up t33 i33 0))))]) hx hb hC hw 2 rfl (by omega) (by omega) (by decide) rfl dX10_forgetTallies_45 (fun H locs hw => ?_)
              refine r_iinc (v := (i33 + 1)) (lv' := [(1, .int (iI (i33 + 1))), (0, .ref h6)]) hx hb dX10_forgetTallies_46 hl (k := 1) rfl (by omega) (by decide) rfl (fun ls hl => ?_)
              refine lv_goto (tgt := 33) hx hb dX10_forgetTallies_49 (by decide) ?_
              exact ih33 (i33 + 1) (up t33 i33 0) _ _ _ (by omega) (by omega) hw (lv_sub hl [1, 0] rfl)
        exact L33 (_ + 1) 0 tg6 _ _ _ (by omega) (Nat.lt_succ_self _) hw (lv_sub hl [1, 0] rfl)
      · skip
        refine lv_aload_n hx hb dX10_forgetTallies_18 rfl (lv_at hl 0 rfl) ?_
        refine gf_X10_9 hx hb hC hw 0 rfl rfl dX10_forgetTallies_19 ?_
        refine lv_iload_n hx hb dX10_forgetTallies_22 rfl (lv_at hl 1 rfl) ?_
        refine r_iconst hx hb dX10_forgetTallies_23 ?_
        refine r_iast (ws' := [(h6, .inr (11, [.ref h8, .ref ww6, .ref wt6, .int (iI 0), .int (iI 0), .int (iI sti6)])), (ww6, .inl (τ 0, 30, .inl (ar (up w12 i12 0)))), (wt6, .inl (τ 0, 8, .inl (ar tg6)))]) hx hb hC hw 1 rfl (by omega) (by omega) (by decide) rfl dX10_forgetTallies_24 (fun H locs hw => ?_)
        refine r_iinc (v := (i12 + 1)) (lv' := [(1, .int (iI (i12 + 1))), (0, .ref h6)]) hx hb dX10_forgetTallies_25 hl (k := 1) rfl (by omega) (by decide) rfl (fun ls hl => ?_)
        refine lv_goto (tgt := 12) hx hb dX10_forgetTallies_28 (by decide) ?_
        exact ih12 (i12 + 1) (up w12 i12 0) _ _ _ (by omega) (by intro j hj1 hj2; first | (exfalso; omega) | (by_cases hj : j = i12 <;> first | exact up_s hj | exact (up_n hj).trans (hi12_1 j hj1 (by omega)))) (by omega) hw (lv_sub hl [1, 0] rfl)
  exact L12 (_ + 1) 0 wg6 _ _ _ (by omega) (by intro j hj1 hj2; first | (exfalso; omega) | (by_cases hj : j = i12 <;> first | exact up_s hj | exact (up_n hj).trans (hi12_1 j hj1 (by omega)))) (Nat.lt_succ_self _) hw (lv_sub hl [1, 0] rfl)
abbrev W_c_Walk_advance0 (τ : Nat → ClassId) (h6 : Nat) (h8 : Nat) (ww6 : Nat) (wt6 : Nat) (wai6 : Int) (cha6 : Int) (sti6 : Int) (c0 : Nat) (k0 : Nat) (p0 : Nat) (o0 : Nat) (f0 : Nat) (g0 : Nat) (h0 : Nat) (ac0 : Int) (ec0 : Int) (stp0 : Int) (d8 : Nat) (cel8 : Int) (cor8 : Int) (dig8 : Int) (b : Nat) : va_W := [(h6, .inr (11, [.ref h8, .ref ww6, .ref wt6, .int (iI wai6), .int (iI cha6), .int (iI sti6)])), (h0, .inr (7, [.ref c0, .ref k0, .ref p0, .ref o0, .ref f0, .ref g0, .int (iI 0), .int (iI 0), .int (iI ac0), .int (iI ec0), .int (iI stp0)])), (h8, .inr (9, [.ref d8, .int (iI cel8), .int (iI cor8), .int (iI dig8)]))]
abbrev E_c_Walk_advance0 (τ : Nat → ClassId) (h6 : Nat) (h8 : Nat) (ww6 : Nat) (wt6 : Nat) (wai6 : Int) (cha6 : Int) (sti6 : Int) (c0 : Nat) (k0 : Nat) (p0 : Nat) (o0 : Nat) (f0 : Nat) (g0 : Nat) (h0 : Nat) (ac0 : Int) (ec0 : Int) (stp0 : Int) (d8 : Nat) (cel8 : Int) (cor8 : Int) (dig8 : Int) (b : Nat) : va_W → Prop := fun w => (True) ∧ w = [(h6, .inr (11, [.ref h8, .ref ww6, .ref wt6, .int (iI wai6), .int (iI cha6), .int (iI 0)])), (h0, .inr (7, [.ref c0, .ref k0, .ref p0, .ref o0, .ref f0, .ref g0, .int (iI 0), .int (iI 0), .int (iI ac0), .int (iI ec0), .int (iI (stp0 + 1))])), (h8, .inr (9, [.ref d8, .int (iI cel8), .int (iI cor8), .int (iI dig8)]))]
set_option maxHeartbeats 4000000 in
set_option maxRecDepth 100000 in
theorem c_Walk_advance0 (l : Launch) (D : va_G) (τ : Nat → ClassId) (sz : Nat) (h6 : Nat) (h8 : Nat) (ww6 : Nat) (wt6 : Nat) (wai6 : Int) (cha6 : Int) (sti6 : Int) (c0 : Nat) (k0 : Nat) (p0 : Nat) (o0 : Nat) (f0 : Nat) (g0 : Nat) (h0 : Nat) (ac0 : Int) (ec0 : Int) (stp0 : Int) (d8 : Nat) (cel8 : Int) (cor8 : Int) (dig8 : Int) (b : Nat)  : Met l yX10_advance (lw_w yX10_advance cX10_advance 6 none) (rmk 2 0 0) (gPc D τ (W_c_Walk_advance0 τ h6 h8 ww6 wt6 wai6 cha6 sti6 c0 k0 p0 o0 f0 g0 h0 ac0 ec0 stp0 d8 cel8 cor8 dig8 b) sz [.ref h6, .ref h0, .ref b]) (gQv D (E_c_Walk_advance0 τ h6 h8 ww6 wt6 wai6 cha6 sti6 c0 k0 p0 o0 f0 g0 h0 ac0 ec0 stp0 d8 cel8 cor8 dig8 b) (va_A (W_c_Walk_advance0 τ h6 h8 ww6 wt6 wai6 cha6 sti6 c0 k0 p0 o0 f0 g0 h0 ac0 ec0 stp0 d8 cel8 cor8 dig8 b) sz)) 0 0 (va_A (W_c_Walk_advance0 τ h6 h8 ww6 wt6 wai6 cha6 sti6 c0 k0 p0 o0 f0 g0 h0 ac0 ec0 stp0 d8 cel8 cor8 dig8 b) sz) := by
  refine g_met (ret := none) (Qc := gQv D (E_c_Walk_advance0 τ h6 h8 ww6 wt6 wai6 cha6 sti6 c0 k0 p0 o0 f0 g0 h0 ac0 ec0 stp0 d8 cel8 cor8 dig8 b)) (by decide +kernel) (Nat.le_of_ble_eq_true rfl) ?_
  intro p e s m args below meth c A ls hx hb hml hr hlk hnm hC hA hw hl
  have hC : cx D τ s m args RX10 := hC
  have hl : lv_has ls 6 [(0, .ref h6), (1, .ref h0), (2, .ref b)] := hl
  have hw : wS D A s.heap [(h6, .inr (11, [.ref h8, .ref ww6, .ref wt6, .int (iI wai6), .int (iI cha6), .int (iI sti6)])), (h0, .inr (7, [.ref c0, .ref k0, .ref p0, .ref o0, .ref f0, .ref g0, .int (iI 0), .int (iI 0), .int (iI ac0), .int (iI ec0), .int (iI stp0)])), (h8, .inr (9, [.ref d8, .int (iI cel8), .int (iI cor8), .int (iI dig8)]))] s.heap [] := hw
  refine lv_aload_n hx hb dX10_advance_0 rfl (lv_at hl 0 rfl) ?_
  refine r_iconst hx hb dX10_advance_1 ?_
  refine pf_X10_25 (ws' := [(h6, .inr (11, [.ref h8, .ref ww6, .ref wt6, .int (iI wai6), .int (iI cha6), .int (iI 0)])), (h0, .inr (7, [.ref c0, .ref k0, .ref p0, .ref o0, .ref f0, .ref g0, .int (iI 0), .int (iI 0), .int (iI ac0), .int (iI ec0), .int (iI stp0)])), (h8, .inr (9, [.ref d8, .int (iI cel8), .int (iI cor8), .int (iI dig8)]))]) hx hb hC hw 0 (by decide) rfl (Nat.le_of_ble_eq_true rfl) rfl dX10_advance_2 (fun H locs hw => ?_)
  refine lv_aload_n hx hb dX10_advance_5 rfl (lv_at hl 0 rfl) ?_
  refine gf_X10_29 hx hb hC hw 0 rfl rfl dX10_advance_6 ?_
  refine gf_X10_60 hx hb hC hw 2 rfl rfl dX10_advance_9 ?_
  refine lv_istore_n (lv' := [(3, .int (iI cel8)), (0, .ref h6), (1, .ref h0), (2, .ref b)]) hx hb dX10_advance_12 rfl hl (by decide) rfl (fun ls hl => ?_)
  refine r_iconst hx hb dX10_advance_13 ?_
  refine lv_istore (lv' := [(4, .int (iI 0)), (3, .int (iI cel8)), (0, .ref h6), (1, .ref h0), (2, .ref b)]) hx hb dX10_advance_14 hl (by decide) rfl (fun ls hl => ?_)
  refine lv_iload hx hb dX10_advance_16 (lv_at hl 0 rfl) ?_
  refine r_bipush hx hb dX10_advance_18 (by decide +kernel) ?_
  refine r_icmp_ge (tgt := 61) hx hb dX10_advance_20 (by decide) (by decide) (by decide) (fun hbr1 => (by exfalso; omega)) (fun hbr1 => ?_)
  refine lv_aload_n hx hb dX10_advance_23 rfl (lv_at hl 3 rfl) ?_
  refine lv_iload_n hx hb dX10_advance_24 rfl (lv_at hl 1 rfl) ?_
  refine g_cVi (wr := [(h6, .inr (11, [.ref h8, .ref ww6, .ref wt6, .int (iI wai6), .int (iI cha6), .int (iI 0)])), (h8, .inr (9, [.ref d8, .int (iI cel8), .int (iI cor8), .int (iI dig8)]))]) (q0 := 0) (ci := 7) hx hb hml hC hA hw hl.1 (c_Scene_foremost0 l D τ _ h0 c0 k0 p0 o0 f0 g0 ac0 ec0 stp0 cel8 ) kX6_foremostBelow ml_X10_65 [1] [0, 2] rfl rfl (by decide) (by decide) (by decide) rfl rfl rfl rfl (Nat.le_of_ble_eq_true rfl) ⟨by decide, by decide⟩ ⟨by decide, by decide⟩ rfl rfl dX10_advance_25 (fun z2 w2 H locs hz2 hE2 hw => ?_)
  obtain ⟨hq2, rfl⟩ := hE2
  obtain rfl : (-1) = z2 := by omega
  have hw : wS D A s.heap [(h6, .inr (11, [.ref h8, .ref ww6, .ref wt6, .int (iI wai6), .int (iI cha6), .int (iI 0)])), (h8, .inr (9, [.ref d8, .int (iI cel8), .int (iI cor8), .int (iI dig8)])), (h0, .inr (7, [.ref c0, .ref k0, .ref p0, .ref o0, .ref f0, .ref g0, .int (iI 0), .int (iI 0), .int (iI ac0), .int (iI ec0), .int (iI stp0)]))] H locs := hw
  refine lv_istore (lv' := [(5, .int (iI (-1))), (4, .int (iI 0)), (3, .int (iI cel8)), (0, .ref h6), (1, .ref h0), (2, .ref b)]) hx hb dX10_advance_28 hl (by decide) rfl (fun ls hl => ?_)
  refine lv_iload hx hb dX10_advance_30 (lv_at hl 0 rfl) ?_
  refine r_iconst hx hb dX10_advance_32 ?_
  refine r_icmp_ne (tgt := 39) hx hb dX10_advance_33 (by decide) (by decide) (by decide) (fun hbr3 => (by exfalso; omega)) (fun hbr3 => ?_)
  refine lv_goto (tgt := 61) hx hb dX10_advance_36 (by decide) ?_
  refine r_iconst hx hb dX10_advance_61 ?_
  refine lv_istore (lv' := [(4, .int (iI 0)), (5, .int (iI (-1))), (3, .int (iI cel8)), (0, .ref h6), (1, .ref h0), (2, .ref b)]) hx hb dX10_advance_62 hl (by decide) rfl (fun ls hl => ?_)
  refine lv_iload hx hb dX10_advance_64 (lv_at hl 0 rfl) ?_
  refine lv_aload_n hx hb dX10_advance_66 rfl (lv_at hl 4 rfl) ?_
  refine gf_X10_51 hx hb hC hw 2 rfl rfl dX10_advance_67 ?_
  refine r_icmp_ge (tgt := 95) hx hb dX10_advance_70 (by decide) (by decide) (by decide) (fun hbr4 => ?_) (fun hbr4 => (by exfalso; omega))
  refine lv_aload_n hx hb dX10_advance_95 rfl (lv_at hl 4 rfl) ?_
  refine lv_dup hx hb dX10_advance_96 rfl ?_
  refine gf_X10_84 hx hb hC hw 2 rfl rfl dX10_advance_97 ?_
  refine r_iconst hx hb dX10_advance_100 ?_
  refine r_iadd (z := (stp0 + 1)) hx hb dX10_advance_101 (by omega) ?_
  refine pf_X10_84 (ws' := [(h6, .inr (11, [.ref h8, .ref ww6, .ref wt6, .int (iI wai6), .int (iI cha6), .int (iI 0)])), (h8, .inr (9, [.ref d8, .int (iI cel8), .int (iI cor8), .int (iI dig8)])), (h0, .inr (7, [.ref c0, .ref k0, .ref p0, .ref o0, .ref f0, .ref g0, .int (iI 0), .int (iI 0), .int (iI ac0), .int (iI ec0), .int (iI (stp0 + 1))]))]) hx hb hC hw 2 rfl (Nat.le_of_ble_eq_true rfl) rfl dX10_advance_102 (fun H locs hw => ?_)
  exact r_vret hx hb hr hlk hw [(h6, .inr (11, [.ref h8, .ref ww6, .ref wt6, .int (iI wai6), .int (iI cha6), .int (iI 0)])), (h0, .inr (7, [.ref c0, .ref k0, .ref p0, .ref o0, .ref f0, .ref g0, .int (iI 0), .int (iI 0), .int (iI ac0), .int (iI ec0), .int (iI (stp0 + 1))])), (h8, .inr (9, [.ref d8, .int (iI cel8), .int (iI cor8), .int (iI dig8)]))] [0, 2, 1] rfl (by decide) ⟨trivial, rfl⟩ dX10_advance_105
abbrev W_c_Walk_walk0 (τ : Nat → ClassId) (h6 : Nat) (h8 : Nat) (ww6 : Nat) (wt6 : Nat) (wai6 : Int) (cha6 : Int) (sti6 : Int) (wg6 : Int → Int) (tg6 : Int → Int) (c0 : Nat) (k0 : Nat) (p0 : Nat) (o0 : Nat) (f0 : Nat) (g0 : Nat) (h0 : Nat) (ac0 : Int) (ec0 : Int) (stp0 : Int) (d8 : Nat) (cel8 : Int) (cor8 : Int) (dig8 : Int) (b : Nat) (v : Int) : va_W := [(h6, .inr (11, [.ref h8, .ref ww6, .ref wt6, .int (iI wai6), .int (iI cha6), .int (iI sti6)])), (ww6, .inl (τ 0, 30, .inl (ar wg6))), (wt6, .inl (τ 0, 8, .inl (ar tg6))), (h0, .inr (7, [.ref c0, .ref k0, .ref p0, .ref o0, .ref f0, .ref g0, .int (iI 0), .int (iI 0), .int (iI ac0), .int (iI ec0), .int (iI stp0)])), (h8, .inr (9, [.ref d8, .int (iI cel8), .int (iI cor8), .int (iI dig8)]))]
abbrev E_c_Walk_walk0 (τ : Nat → ClassId) (h6 : Nat) (h8 : Nat) (ww6 : Nat) (wt6 : Nat) (wai6 : Int) (cha6 : Int) (sti6 : Int) (wg6 : Int → Int) (tg6 : Int → Int) (c0 : Nat) (k0 : Nat) (p0 : Nat) (o0 : Nat) (f0 : Nat) (g0 : Nat) (h0 : Nat) (ac0 : Int) (ec0 : Int) (stp0 : Int) (d8 : Nat) (cel8 : Int) (cor8 : Int) (dig8 : Int) (b : Nat) (v : Int) : va_W → Prop := fun w => ∃ (sti7 : Int), ∃ (stp9 : Int), ∃ (wg7 : Int → Int), ∃ (tg7 : Int → Int), ((∀ j : Int, 0 ≤ j → j < 30 → wg7 j = 0)) ∧ w = [(h6, .inr (11, [.ref h8, .ref ww6, .ref wt6, .int (iI 0), .int (iI 0), .int (iI sti7)])), (ww6, .inl (τ 0, 30, .inl (ar wg7))), (wt6, .inl (τ 0, 8, .inl (ar tg7))), (h0, .inr (7, [.ref c0, .ref k0, .ref p0, .ref o0, .ref f0, .ref g0, .int (iI 0), .int (iI 0), .int (iI ac0), .int (iI ec0), .int (iI stp9)])), (h8, .inr (9, [.ref d8, .int (iI cel8), .int (iI cor8), .int (iI dig8)]))]
set_option maxHeartbeats 4000000 in
set_option maxRecDepth 100000 in
theorem c_Walk_walk0 (l : Launch) (D : va_G) (τ : Nat → ClassId) (sz : Nat) (h6 : Nat) (h8 : Nat) (ww6 : Nat) (wt6 : Nat) (wai6 : Int) (cha6 : Int) (sti6 : Int) (wg6 : Int → Int) (tg6 : Int → Int) (c0 : Nat) (k0 : Nat) (p0 : Nat) (o0 : Nat) (f0 : Nat) (g0 : Nat) (h0 : Nat) (ac0 : Int) (ec0 : Int) (stp0 : Int) (d8 : Nat) (cel8 : Int) (cor8 : Int) (dig8 : Int) (b : Nat) (v : Int) (hp0 : iR v) : Met l yX10_walk (lw_w yX10_walk cX10_walk 5 none) (rmk 3 0 0) (gPc D τ (W_c_Walk_walk0 τ h6 h8 ww6 wt6 wai6 cha6 sti6 wg6 tg6 c0 k0 p0 o0 f0 g0 h0 ac0 ec0 stp0 d8 cel8 cor8 dig8 b v) sz [.ref h6, .ref h0, .ref b, .int (iI v)]) (gQv D (E_c_Walk_walk0 τ h6 h8 ww6 wt6 wai6 cha6 sti6 wg6 tg6 c0 k0 p0 o0 f0 g0 h0 ac0 ec0 stp0 d8 cel8 cor8 dig8 b v) (va_A (W_c_Walk_walk0 τ h6 h8 ww6 wt6 wai6 cha6 sti6 wg6 tg6 c0 k0 p0 o0 f0 g0 h0 ac0 ec0 stp0 d8 cel8 cor8 dig8 b v) sz)) 0 0 (va_A (W_c_Walk_walk0 τ h6 h8 ww6 wt6 wai6 cha6 sti6 wg6 tg6 c0 k0 p0 o0 f0 g0 h0 ac0 ec0 stp0 d8 cel8 cor8 dig8 b v) sz) := by
  refine g_met (ret := none) (Qc := gQv D (E_c_Walk_walk0 τ h6 h8 ww6 wt6 wai6 cha6 sti6 wg6 tg6 c0 k0 p0 o0 f0 g0 h0 ac0 ec0 stp0 d8 cel8 cor8 dig8 b v)) (by decide +kernel) (Nat.le_of_ble_eq_true rfl) ?_
  intro p e s m args below meth c A ls hx hb hml hr hlk hnm hC hA hw hl
  have hC : cx D τ s m args RX10 := hC
  have hl : lv_has ls 5 [(0, .ref h6), (1, .ref h0), (2, .ref b), (3, .int (iI v))] := hl
  have hw : wS D A s.heap [(h6, .inr (11, [.ref h8, .ref ww6, .ref wt6, .int (iI wai6), .int (iI cha6), .int (iI sti6)])), (ww6, .inl (τ 0, 30, .inl (ar wg6))), (wt6, .inl (τ 0, 8, .inl (ar tg6))), (h0, .inr (7, [.ref c0, .ref k0, .ref p0, .ref o0, .ref f0, .ref g0, .int (iI 0), .int (iI 0), .int (iI ac0), .int (iI ec0), .int (iI stp0)])), (h8, .inr (9, [.ref d8, .int (iI cel8), .int (iI cor8), .int (iI dig8)]))] s.heap [] := hw
  refine lv_aload_n hx hb dX10_walk_0 rfl (lv_at hl 0 rfl) ?_
  refine g_cVv (wr := [(h0, .inr (7, [.ref c0, .ref k0, .ref p0, .ref o0, .ref f0, .ref g0, .int (iI 0), .int (iI 0), .int (iI ac0), .int (iI ec0), .int (iI stp0)])), (h8, .inr (9, [.ref d8, .int (iI cel8), .int (iI cor8), .int (iI dig8)]))]) (q0 := 0) (ci := 11) hx hb hml hC hA hw hl.1 (c_Walk_forget l D τ _ h6 h8 ww6 wt6 wai6 cha6 sti6 wg6 tg6 ) kX10_forgetTallies ml_X10_33 [0, 1, 2] [3, 4] rfl rfl (by decide) (by decide) (by decide) rfl rfl rfl rfl (Nat.le_of_ble_eq_true rfl) ⟨by decide, by decide⟩ ⟨by decide, by decide⟩ rfl rfl dX10_walk_1 (fun w1 H locs hE1 hw => ?_)
  obtain ⟨wg7_1, tg7_1, hq1, rfl⟩ := hE1
  have hw : wS D A s.heap [(h0, .inr (7, [.ref c0, .ref k0, .ref p0, .ref o0, .ref f0, .ref g0, .int (iI 0), .int (iI 0), .int (iI ac0), .int (iI ec0), .int (iI stp0)])), (h8, .inr (9, [.ref d8, .int (iI cel8), .int (iI cor8), .int (iI dig8)])), (h6, .inr (11, [.ref h8, .ref ww6, .ref wt6, .int (iI 0), .int (iI 0), .int (iI sti6)])), (ww6, .inl (τ 0, 30, .inl (ar wg7_1))), (wt6, .inl (τ 0, 8, .inl (ar tg7_1)))] H locs := hw
  refine r_iconst hx hb dX10_walk_4 ?_
  refine lv_istore (lv' := [(4, .int (iI 0)), (0, .ref h6), (1, .ref h0), (2, .ref b), (3, .int (iI v))]) hx hb dX10_walk_5 hl (by decide) rfl (fun ls hl => ?_)
  have L7 : ∀ (n : Nat) (k7 : Int) (st7 : Int) (sp7 : Int) (H : Heap) (locs : List Loc) (ls : Array Slot), (0 ≤ k7 ∧ (k7 ≤ v ∨ k7 = 0)) → ((v - k7).toNat < n) → wS D A s.heap [(h0, .inr (7, [.ref c0, .ref k0, .ref p0, .ref o0, .ref f0, .ref g0, .int (iI 0), .int (iI 0), .int (iI ac0), .int (iI ec0), .int (iI sp7)])), (h8, .inr (9, [.ref d8, .int (iI cel8), .int (iI cor8), .int (iI dig8)])), (h6, .inr (11, [.ref h8, .ref ww6, .ref wt6, .int (iI 0), .int (iI 0), .int (iI st7)])), (ww6, .inl (τ 0, 30, .inl (ar wg7_1))), (wt6, .inl (τ 0, 8, .inl (ar tg7_1)))] H locs → lv_has ls 5 [(0, .ref h6), (1, .ref h0), (2, .ref b), (3, .int (iI v)), (4, .int (iI k7))] → W p l e (rmk 3 0 0) s m args below meth c H locs 0 0 (MQ below (gQv D (E_c_Walk_walk0 τ h6 h8 ww6 wt6 wai6 cha6 sti6 wg6 tg6 c0 k0 p0 o0 f0 g0 h0 ac0 ec0 stp0 d8 cel8 cor8 dig8 b v) A) args s 0 0 A) (F0 m 7 ls []) := by
    intro n7
    induction n7 with
    | zero => intro k7 st7 sp7 H locs ls hi7_0 hm7; exact absurd hm7 (Nat.not_lt_zero _)
    | succ n7 ih7 =>
      intro k7 st7 sp7 H locs ls hi7_0 hm7 hw hl
      refine lv_iload hx hb dX10_walk_7 (lv_at hl 4 rfl) ?_
      refine lv_iload_n hx hb dX10_walk_9 rfl (lv_at hl 3 rfl) ?_
      refine r_icmp_ge (tgt := 25) hx hb dX10_walk_10 (by decide) (by omega) (by omega) (fun hbr2 => ?_) (fun hbr2 => ?_)
      · skip
        exact r_vret hx hb hr hlk hw [(h6, .inr (11, [.ref h8, .ref ww6, .ref wt6, .int (iI 0), .int (iI 0), .int (iI st7)])), (ww6, .inl (τ 0, 30, .inl (ar wg7_1))), (wt6, .inl (τ 0, 8, .inl (ar tg7_1))), (h0, .inr (7, [.ref c0, .ref k0, .ref p0, .ref o0, .ref f0, .ref g0, .int (iI 0), .int (iI 0), .int (iI ac0), .int (iI ec0), .int (iI sp7)])), (h8, .inr (9, [.ref d8, .int (iI cel8), .int (iI cor8), .int (iI dig8)]))] [2, 3, 4, 0, 1] rfl (by decide) ⟨st7, sp7, wg7_1, tg7_1, (by exact hq1), rfl⟩ dX10_walk_25
      · skip
        refine lv_aload_n hx hb dX10_walk_13 rfl (lv_at hl 0 rfl) ?_
        refine lv_aload_n hx hb dX10_walk_14 rfl (lv_at hl 1 rfl) ?_
        refine lv_aload_n hx hb dX10_walk_15 rfl (lv_at hl 2 rfl) ?_
        refine g_cVv (wr := [(ww6, .inl (τ 0, 30, .inl (ar wg7_1))), (wt6, .inl (τ 0, 8, .inl (ar tg7_1)))]) (q0 := 0) (ci := 11) hx hb hml hC hA hw hl.1 (c_Walk_advance0 l D τ _ h6 h8 ww6 wt6 0 0 st7 c0 k0 p0 o0 f0 g0 h0 ac0 ec0 sp7 d8 cel8 cor8 dig8 b ) kX10_advance ml_X10_36 [2, 0, 1] [3, 4] rfl rfl (by decide) (by decide) (by decide) rfl rfl rfl rfl (Nat.le_of_ble_eq_true rfl) ⟨by decide, by decide⟩ ⟨by decide, by decide⟩ rfl rfl dX10_walk_16 (fun w3 H locs hE3 hw => ?_)
        obtain ⟨hq3, rfl⟩ := hE3
        have hw : wS D A s.heap [(ww6, .inl (τ 0, 30, .inl (ar wg7_1))), (wt6, .inl (τ 0, 8, .inl (ar tg7_1))), (h6, .inr (11, [.ref h8, .ref ww6, .ref wt6, .int (iI 0), .int (iI 0), .int (iI 0)])), (h0, .inr (7, [.ref c0, .ref k0, .ref p0, .ref o0, .ref f0, .ref g0, .int (iI 0), .int (iI 0), .int (iI ac0), .int (iI ec0), .int (iI (sp7 + 1))])), (h8, .inr (9, [.ref d8, .int (iI cel8), .int (iI cor8), .int (iI dig8)]))] H locs := hw
        refine r_iinc (v := (k7 + 1)) (lv' := [(4, .int (iI (k7 + 1))), (0, .ref h6), (1, .ref h0), (2, .ref b), (3, .int (iI v))]) hx hb dX10_walk_19 hl (k := 4) rfl (by omega) (by decide) rfl (fun ls hl => ?_)
        refine lv_goto (tgt := 7) hx hb dX10_walk_22 (by decide) ?_
        exact ih7 (k7 + 1) 0 (sp7 + 1) _ _ _ (by omega) (by omega) (hw.pick [3, 4, 2, 0, 1] (by decide) rfl) (lv_sub hl [1, 2, 3, 4, 0] rfl)
  exact L7 (_ + 1) 0 sti6 stp0 _ _ _ (by omega) (Nat.lt_succ_self _) hw (lv_sub hl [1, 2, 3, 4, 0] rfl)
abbrev W_c_Walk_toEnd0 (τ : Nat → ClassId) (h6 : Nat) (h8 : Nat) (ww6 : Nat) (wt6 : Nat) (wai6 : Int) (cha6 : Int) (sti6 : Int) (c0 : Nat) (k0 : Nat) (p0 : Nat) (o0 : Nat) (f0 : Nat) (g0 : Nat) (h0 : Nat) (ac0 : Int) (stp0 : Int) (h2 : Nat) (ka2 : Nat) (va2 : Nat) (sa2 : Nat) (ga2 : Nat) (siz2 : Int) : va_W := [(h6, .inr (11, [.ref h8, .ref ww6, .ref wt6, .int (iI wai6), .int (iI cha6), .int (iI sti6)])), (h0, .inr (7, [.ref c0, .ref k0, .ref p0, .ref o0, .ref f0, .ref g0, .int (iI 0), .int (iI 0), .int (iI ac0), .int (iI 0), .int (iI stp0)])), (h2, .inr (3, [.ref ka2, .ref va2, .ref sa2, .ref ga2, .int (iI siz2), .int (iI 2)]))]
abbrev E_c_Walk_toEnd0 (τ : Nat → ClassId) (h6 : Nat) (h8 : Nat) (ww6 : Nat) (wt6 : Nat) (wai6 : Int) (cha6 : Int) (sti6 : Int) (c0 : Nat) (k0 : Nat) (p0 : Nat) (o0 : Nat) (f0 : Nat) (g0 : Nat) (h0 : Nat) (ac0 : Int) (stp0 : Int) (h2 : Nat) (ka2 : Nat) (va2 : Nat) (sa2 : Nat) (ga2 : Nat) (siz2 : Int) : va_W → Prop := fun w => (True) ∧ w = [(h6, .inr (11, [.ref h8, .ref ww6, .ref wt6, .int (iI wai6), .int (iI cha6), .int (iI sti6)])), (h0, .inr (7, [.ref c0, .ref k0, .ref p0, .ref o0, .ref f0, .ref g0, .int (iI 0), .int (iI 0), .int (iI ac0), .int (iI 0), .int (iI stp0)])), (h2, .inr (3, [.ref ka2, .ref va2, .ref sa2, .ref ga2, .int (iI siz2), .int (iI 2)]))]
set_option maxHeartbeats 4000000 in
set_option maxRecDepth 100000 in
theorem c_Walk_toEnd0 (l : Launch) (D : va_G) (τ : Nat → ClassId) (sz : Nat) (h6 : Nat) (h8 : Nat) (ww6 : Nat) (wt6 : Nat) (wai6 : Int) (cha6 : Int) (sti6 : Int) (c0 : Nat) (k0 : Nat) (p0 : Nat) (o0 : Nat) (f0 : Nat) (g0 : Nat) (h0 : Nat) (ac0 : Int) (stp0 : Int) (h2 : Nat) (ka2 : Nat) (va2 : Nat) (sa2 : Nat) (ga2 : Nat) (siz2 : Int)  : Met l yX10_toEnd (lw_w yX10_toEnd cX10_toEnd 6 none) (rmk 3 0 0) (gPc D τ (W_c_Walk_toEnd0 τ h6 h8 ww6 wt6 wai6 cha6 sti6 c0 k0 p0 o0 f0 g0 h0 ac0 stp0 h2 ka2 va2 sa2 ga2 siz2) sz [.ref h6, .ref h0, .ref h2]) (gQv D (E_c_Walk_toEnd0 τ h6 h8 ww6 wt6 wai6 cha6 sti6 c0 k0 p0 o0 f0 g0 h0 ac0 stp0 h2 ka2 va2 sa2 ga2 siz2) (va_A (W_c_Walk_toEnd0 τ h6 h8 ww6 wt6 wai6 cha6 sti6 c0 k0 p0 o0 f0 g0 h0 ac0 stp0 h2 ka2 va2 sa2 ga2 siz2) sz)) 0 0 (va_A (W_c_Walk_toEnd0 τ h6 h8 ww6 wt6 wai6 cha6 sti6 c0 k0 p0 o0 f0 g0 h0 ac0 stp0 h2 ka2 va2 sa2 ga2 siz2) sz) := by
  refine g_met (ret := none) (Qc := gQv D (E_c_Walk_toEnd0 τ h6 h8 ww6 wt6 wai6 cha6 sti6 c0 k0 p0 o0 f0 g0 h0 ac0 stp0 h2 ka2 va2 sa2 ga2 siz2)) (by decide +kernel) (Nat.le_of_ble_eq_true rfl) ?_
  intro p e s m args below meth c A ls hx hb hml hr hlk hnm hC hA hw hl
  have hC : cx D τ s m args RX10 := hC
  have hl : lv_has ls 6 [(0, .ref h6), (1, .ref h0), (2, .ref h2)] := hl
  have hw : wS D A s.heap [(h6, .inr (11, [.ref h8, .ref ww6, .ref wt6, .int (iI wai6), .int (iI cha6), .int (iI sti6)])), (h0, .inr (7, [.ref c0, .ref k0, .ref p0, .ref o0, .ref f0, .ref g0, .int (iI 0), .int (iI 0), .int (iI ac0), .int (iI 0), .int (iI stp0)])), (h2, .inr (3, [.ref ka2, .ref va2, .ref sa2, .ref ga2, .int (iI siz2), .int (iI 2)]))] s.heap [] := hw
  refine lv_aload_n hx hb dX10_toEnd_0 rfl (lv_at hl 2 rfl) ?_
  refine lv_aload_n hx hb dX10_toEnd_1 rfl (lv_at hl 0 rfl) ?_
  refine gf_X10_29 hx hb hC hw 0 rfl rfl dX10_toEnd_2 ?_
  refine g_cVi (wr := [(h6, .inr (11, [.ref h8, .ref ww6, .ref wt6, .int (iI wai6), .int (iI cha6), .int (iI sti6)])), (h0, .inr (7, [.ref c0, .ref k0, .ref p0, .ref o0, .ref f0, .ref g0, .int (iI 0), .int (iI 0), .int (iI ac0), .int (iI 0), .int (iI stp0)]))]) (q0 := 0) (ci := 3) hx hb hml hC hA hw hl.1 (c_Law_period l D τ _ h2 ka2 va2 sa2 ga2 siz2 h8 ) kX2_period ml_X10_40 [2] [0, 1] rfl rfl (by decide) (by decide) (by decide) rfl rfl rfl rfl (Nat.le_of_ble_eq_true rfl) ⟨by decide, by decide⟩ ⟨by decide, by decide⟩ rfl rfl dX10_toEnd_5 (fun z1 w1 H locs hz1 hE1 hw => ?_)
  obtain ⟨hq1, rfl⟩ := hE1
  obtain rfl : 1 = z1 := by omega
  have hw : wS D A s.heap [(h6, .inr (11, [.ref h8, .ref ww6, .ref wt6, .int (iI wai6), .int (iI cha6), .int (iI sti6)])), (h0, .inr (7, [.ref c0, .ref k0, .ref p0, .ref o0, .ref f0, .ref g0, .int (iI 0), .int (iI 0), .int (iI ac0), .int (iI 0), .int (iI stp0)])), (h2, .inr (3, [.ref ka2, .ref va2, .ref sa2, .ref ga2, .int (iI siz2), .int (iI 2)]))] H locs := hw
  refine lv_istore_n (lv' := [(3, .int (iI 1)), (0, .ref h6), (1, .ref h0), (2, .ref h2)]) hx hb dX10_toEnd_8 rfl hl (by decide) rfl (fun ls hl => ?_)
  refine r_iconst hx hb dX10_toEnd_9 ?_
  refine lv_istore (lv' := [(4, .int (iI 0)), (3, .int (iI 1)), (0, .ref h6), (1, .ref h0), (2, .ref h2)]) hx hb dX10_toEnd_10 hl (by decide) rfl (fun ls hl => ?_)
  refine r_iconst hx hb dX10_toEnd_12 ?_
  refine lv_istore (lv' := [(5, .int (iI 0)), (4, .int (iI 0)), (3, .int (iI 1)), (0, .ref h6), (1, .ref h0), (2, .ref h2)]) hx hb dX10_toEnd_13 hl (by decide) rfl (fun ls hl => ?_)
  refine lv_iload hx hb dX10_toEnd_15 (lv_at hl 0 rfl) ?_
  refine r_sipush hx hb dX10_toEnd_17 (by decide +kernel) ?_
  refine r_icmp_ge (tgt := 83) hx hb dX10_toEnd_20 (by decide) (by decide) (by decide) (fun hbr2 => (by exfalso; omega)) (fun hbr2 => ?_)
  refine lv_iload hx hb dX10_toEnd_23 (lv_at hl 1 rfl) ?_
  refine lv_iload_n hx hb dX10_toEnd_25 rfl (lv_at hl 2 rfl) ?_
  refine r_icmp_ge (tgt := 83) hx hb dX10_toEnd_26 (by decide) (by decide) (by decide) (fun hbr3 => (by exfalso; omega)) (fun hbr3 => ?_)
  refine lv_aload_n hx hb dX10_toEnd_29 rfl (lv_at hl 4 rfl) ?_
  refine gf_X10_46 hx hb hC hw 1 rfl rfl dX10_toEnd_30 ?_
  refine lv_aload_n hx hb dX10_toEnd_33 rfl (lv_at hl 4 rfl) ?_
  refine gf_X10_51 hx hb hC hw 1 rfl rfl dX10_toEnd_34 ?_
  refine r_icmp_eq (tgt := 83) hx hb dX10_toEnd_37 (by decide) (by decide) (by decide) (fun hbr4 => ?_) (fun hbr4 => (by exfalso; omega))
  exact r_vret hx hb hr hlk hw [(h6, .inr (11, [.ref h8, .ref ww6, .ref wt6, .int (iI wai6), .int (iI cha6), .int (iI sti6)])), (h0, .inr (7, [.ref c0, .ref k0, .ref p0, .ref o0, .ref f0, .ref g0, .int (iI 0), .int (iI 0), .int (iI ac0), .int (iI 0), .int (iI stp0)])), (h2, .inr (3, [.ref ka2, .ref va2, .ref sa2, .ref ga2, .int (iI siz2), .int (iI 2)]))] [0, 1, 2] rfl (by decide) ⟨trivial, rfl⟩ dX10_toEnd_83
abbrev W_c_Hist_init (τ : Nat → ClassId) (h7 : Nat) : va_W := [(h7, .inr (2, [.null, .int (iI 0), .int (iI 0)]))]
abbrev E_c_Hist_init (τ : Nat → ClassId) (h7 : Nat) : va_W → Prop := fun w => ∃ (ha7 : Nat), ∃ (h0 : Nat), ∃ (c0 : Nat), ∃ (k0 : Nat), ∃ (p0 : Nat), ∃ (o0 : Nat), ∃ (f0 : Nat), ∃ (g0 : Nat), ∃ (hf7 : Nat → Option Nat), (hf7 0 = some h0) ∧ w = [(h7, .inr (2, [.ref ha7, .int (iI 0), .int (iI 0)])), (ha7, .inl (τ 3, 15, rfs hf7)), (h0, .inr (7, [.ref c0, .ref k0, .ref p0, .ref o0, .ref f0, .ref g0, .int (iI 0), .int (iI 0), .int (iI 0), .int (iI 0), .int (iI 0)])), (c0, .inl (τ 0, 6, .inl (ar (fun _ => 0)))), (k0, .inl (τ 0, 6, .inl (ar (fun _ => 0)))), (p0, .inl (τ 0, 8, .inl (ar (fun _ => 0)))), (o0, .inl (τ 0, 8, .inl (ar (fun _ => 0)))), (f0, .inl (τ 0, 8, .inl (ar (fun _ => 0)))), (g0, .inl (τ 0, 8, .inl (ar (fun _ => 0))))]
set_option maxHeartbeats 4000000 in
set_option maxRecDepth 100000 in
theorem c_Hist_init (l : Launch) (D : va_G) (τ : Nat → ClassId) (sz : Nat) (h7 : Nat)  : Met l yX1_init (lw_w yX1_init cX1_init 2 none) (rmk 2 106 840) (gPc D τ (W_c_Hist_init τ h7) sz [.ref h7]) (gQv D (E_c_Hist_init τ h7) (va_A (W_c_Hist_init τ h7) sz)) 106 840 (va_A (W_c_Hist_init τ h7) sz) := by
  refine g_met (ret := none) (Qc := gQv D (E_c_Hist_init τ h7)) (by decide +kernel) (Nat.le_of_ble_eq_true rfl) ?_
  intro p e s m args below meth c A ls hx hb hml hr hlk hnm hC hA hw hl
  have hC : cx D τ s m args RX1 := hC
  have hl : lv_has ls 2 [(0, .ref h7)] := hl
  have hw : wS D A s.heap [(h7, .inr (2, [.null, .int (iI 0), .int (iI 0)]))] s.heap [] := hw
  refine lv_aload_n hx hb dX1_init_0 rfl (lv_at hl 0 rfl) ?_
  refine r_objInit hx hb hml hC hl.1 ml_X1_3 im_init cd_init (by decide) (Nat.le_of_ble_eq_true rfl) (by decide) dX1_init_1 ?_
  refine lv_aload_n hx hb dX1_init_4 rfl (lv_at hl 0 rfl) ?_
  refine r_bipush hx hb dX1_init_5 (by decide +kernel) ?_
  refine r_anewS (N := 15) hx hb hC hA hw cl_X1_9 (by decide) (by decide) (by decide) (by decide) rfl rfl dX1_init_7 (fun a1 H hw => ?_)
  have hw : wS D A s.heap [(h7, .inr (2, [.null, .int (iI 0), .int (iI 0)])), (a1, .inl (τ 3, 15, rfs (fun _ => none)))] H _ := hw
  refine pf_X1_11 (ws' := [(h7, .inr (2, [.ref a1, .int (iI 0), .int (iI 0)])), (a1, .inl (τ 3, 15, rfs (fun _ => none)))]) hx hb hC hw hnm 0 rfl (Nat.le_of_ble_eq_true rfl) rfl dX1_init_10 (fun H locs hw => ?_)
  refine lv_aload_n hx hb dX1_init_13 rfl (lv_at hl 0 rfl) ?_
  refine r_iconst hx hb dX1_init_14 ?_
  refine pf_X1_17 (ws' := [(h7, .inr (2, [.ref a1, .int (iI 0), .int (iI 0)])), (a1, .inl (τ 3, 15, rfs (fun _ => none)))]) hx hb hC hw 0 rfl (Nat.le_of_ble_eq_true rfl) rfl dX1_init_15 (fun H locs hw => ?_)
  refine lv_aload_n hx hb dX1_init_18 rfl (lv_at hl 0 rfl) ?_
  refine r_iconst hx hb dX1_init_19 ?_
  refine pf_X1_21 (ws' := [(h7, .inr (2, [.ref a1, .int (iI 0), .int (iI 0)])), (a1, .inl (τ 3, 15, rfs (fun _ => none)))]) hx hb hC hw 0 rfl (Nat.le_of_ble_eq_true rfl) rfl dX1_init_20 (fun H locs hw => ?_)
  refine r_iconst hx hb dX1_init_23 ?_
  refine lv_istore_n (lv' := [(1, .int (iI 0)), (0, .ref h7)]) hx hb dX1_init_24 rfl hl (by decide) rfl (fun ls hl => ?_)
  refine lv_iload_n hx hb dX1_init_25 rfl (lv_at hl 0 rfl) ?_
  refine r_bipush hx hb dX1_init_26 (by decide +kernel) ?_
  refine r_icmp_ge (tgt := 50) hx hb dX1_init_28 (by decide) (by decide) (by decide) (fun hbr2 => (by exfalso; omega)) (fun hbr2 => ?_)
  refine lv_aload_n hx hb dX1_init_31 rfl (lv_at hl 1 rfl) ?_
  refine gf_X1_11 hx hb hC hw 0 rfl rfl dX1_init_32 ?_
  refine lv_iload_n hx hb dX1_init_35 rfl (lv_at hl 0 rfl) ?_
  refine r_new (ci := 7) (fs := [.null, .null, .null, .null, .null, .null, .int (iI 0), .int (iI 0), .int (iI 0), .int (iI 0), .int (iI 0)]) hx hb hC hA hw iX6 tyX6 tyX6_ok rfl cl_X1_9 it_X6 in_X6 df_X6 (by decide) (by decide) rfl rfl dX1_init_36 (fun a3 H hw => ?_)
  have hw : wS D A s.heap [(h7, .inr (2, [.ref a1, .int (iI 0), .int (iI 0)])), (a1, .inl (τ 3, 15, rfs (fun _ => none))), (a3, .inr (7, [.null, .null, .null, .null, .null, .null, .int (iI 0), .int (iI 0), .int (iI 0), .int (iI 0), .int (iI 0)]))] H _ := hw
  refine lv_dup hx hb dX1_init_39 rfl ?_
  refine g_cINv (wr := [(h7, .inr (2, [.ref a1, .int (iI 0), .int (iI 0)])), (a1, .inl (τ 3, 15, rfs (fun _ => none)))]) hx hb hml hC hA hw hl.1 (c_Scene_init l D τ _ a3 ) kX6_init ml_X1_24 [2] [0, 1] rfl rfl (by decide) (by decide) (by decide) rfl rfl (Nat.le_of_ble_eq_true rfl) ⟨by decide, by decide⟩ ⟨by decide, by decide⟩ rfl rfl dX1_init_40 (fun w4 H locs hE4 hw => ?_)
  obtain ⟨c0_4, k0_4, p0_4, o0_4, f0_4, g0_4, hq4, rfl⟩ := hE4
  have hw : wS D A s.heap [(h7, .inr (2, [.ref a1, .int (iI 0), .int (iI 0)])), (a1, .inl (τ 3, 15, rfs (fun _ => none))), (a3, .inr (7, [.ref c0_4, .ref k0_4, .ref p0_4, .ref o0_4, .ref f0_4, .ref g0_4, .int (iI 0), .int (iI 0), .int (iI 0), .int (iI 0), .int (iI 0)])), (c0_4, .inl (τ 0, 6, .inl (ar (fun _ => 0)))), (k0_4, .inl (τ 0, 6, .inl (ar (fun _ => 0)))), (p0_4, .inl (τ 0, 8, .inl (ar (fun _ => 0)))), (o0_4, .inl (τ 0, 8, .inl (ar (fun _ => 0)))), (f0_4, .inl (τ 0, 8, .inl (ar (fun _ => 0)))), (g0_4, .inl (τ 0, 8, .inl (ar (fun _ => 0))))] H locs := hw
  refine r_aastS (f' := (va_up (fun _ => none) 0 (some a3))) (ws' := [(h7, .inr (2, [.ref a1, .int (iI 0), .int (iI 0)])), (a1, .inl (τ 3, 15, rfs (va_up (fun _ => none) 0 (some a3)))), (a3, .inr (7, [.ref c0_4, .ref k0_4, .ref p0_4, .ref o0_4, .ref f0_4, .ref g0_4, .int (iI 0), .int (iI 0), .int (iI 0), .int (iI 0), .int (iI 0)])), (c0_4, .inl (τ 0, 6, .inl (ar (fun _ => 0)))), (k0_4, .inl (τ 0, 6, .inl (ar (fun _ => 0)))), (p0_4, .inl (τ 0, 8, .inl (ar (fun _ => 0)))), (o0_4, .inl (τ 0, 8, .inl (ar (fun _ => 0)))), (f0_4, .inl (τ 0, 8, .inl (ar (fun _ => 0)))), (g0_4, .inl (τ 0, 8, .inl (ar (fun _ => 0))))]) hx hb hC hw 1 2 rfl rfl (by decide) (by decide) (by decide) rfl rfl dX1_init_43 (fun H locs hw => ?_)
  refine r_iinc (v := 1) (lv' := [(1, .int (iI 1)), (0, .ref h7)]) hx hb dX1_init_44 hl (k := 0) rfl rfl (by decide) rfl (fun ls hl => ?_)
  refine lv_goto (tgt := 25) hx hb dX1_init_47 (by decide) ?_
  refine lv_iload_n hx hb dX1_init_25 rfl (lv_at hl 0 rfl) ?_
  refine r_bipush hx hb dX1_init_26 (by decide +kernel) ?_
  refine r_icmp_ge (tgt := 50) hx hb dX1_init_28 (by decide) (by decide) (by decide) (fun hbr5 => (by exfalso; omega)) (fun hbr5 => ?_)
  refine lv_aload_n hx hb dX1_init_31 rfl (lv_at hl 1 rfl) ?_
  refine gf_X1_11 hx hb hC hw 0 rfl rfl dX1_init_32 ?_
  refine lv_iload_n hx hb dX1_init_35 rfl (lv_at hl 0 rfl) ?_
  refine r_new (ci := 7) (fs := [.null, .null, .null, .null, .null, .null, .int (iI 0), .int (iI 0), .int (iI 0), .int (iI 0), .int (iI 0)]) hx hb hC hA hw iX6 tyX6 tyX6_ok rfl cl_X1_9 it_X6 in_X6 df_X6 (by decide) (by decide) rfl rfl dX1_init_36 (fun a6 H hw => ?_)
  have hw : wS D A s.heap [(h7, .inr (2, [.ref a1, .int (iI 0), .int (iI 0)])), (a1, .inl (τ 3, 15, rfs (va_up (fun _ => none) 0 (some a3)))), (a3, .inr (7, [.ref c0_4, .ref k0_4, .ref p0_4, .ref o0_4, .ref f0_4, .ref g0_4, .int (iI 0), .int (iI 0), .int (iI 0), .int (iI 0), .int (iI 0)])), (c0_4, .inl (τ 0, 6, .inl (ar (fun _ => 0)))), (k0_4, .inl (τ 0, 6, .inl (ar (fun _ => 0)))), (p0_4, .inl (τ 0, 8, .inl (ar (fun _ => 0)))), (o0_4, .inl (τ 0, 8, .inl (ar (fun _ => 0)))), (f0_4, .inl (τ 0, 8, .inl (ar (fun _ => 0)))), (g0_4, .inl (τ 0, 8, .inl (ar (fun _ => 0)))), (a6, .inr (7, [.null, .null, .null, .null, .null, .null, .int (iI 0), .int (iI 0), .int (iI 0), .int (iI 0), .int (iI 0)]))] H _ := hw
  refine lv_dup hx hb dX1_init_39 rfl ?_
  refine g_cINv (wr := [(h7, .inr (2, [.ref a1, .int (iI 0), .int (iI 0)])), (a1, .inl (τ 3, 15, rfs (va_up (fun _ => none) 0 (some a3)))), (a3, .inr (7, [.ref c0_4, .ref k0_4, .ref p0_4, .ref o0_4, .ref f0_4, .ref g0_4, .int (iI 0), .int (iI 0), .int (iI 0), .int (iI 0), .int (iI 0)])), (c0_4, .inl (τ 0, 6, .inl (ar (fun _ => 0)))), (k0_4, .inl (τ 0, 6, .inl (ar (fun _ => 0)))), (p0_4, .inl (τ 0, 8, .inl (ar (fun _ => 0)))), (o0_4, .inl (τ 0, 8, .inl (ar (fun _ => 0)))), (f0_4, .inl (τ 0, 8, .inl (ar (fun _ => 0)))), (g0_4, .inl (τ 0, 8, .inl (ar (fun _ => 0))))]) hx hb hml hC hA hw hl.1 (c_Scene_init l D τ _ a6 ) kX6_init ml_X1_24 [9] [0, 1, 2, 3, 4, 5, 6, 7, 8] rfl rfl (by decide) (by decide) (by decide) rfl rfl (Nat.le_of_ble_eq_true rfl) ⟨by decide, by decide⟩ ⟨by decide, by decide⟩ rfl rfl dX1_init_40 (fun w7 H locs hE7 hw => ?_)
  obtain ⟨c0_7, k0_7, p0_7, o0_7, f0_7, g0_7, hq7, rfl⟩ := hE7
  have hw : wS D A s.heap [(h7, .inr (2, [.ref a1, .int (iI 0), .int (iI 0)])), (a1, .inl (τ 3, 15, rfs (va_up (fun _ => none) 0 (some a3)))), (a3, .inr (7, [.ref c0_4, .ref k0_4, .ref p0_4, .ref o0_4, .ref f0_4, .ref g0_4, .int (iI 0), .int (iI 0), .int (iI 0), .int (iI 0), .int (iI 0)])), (c0_4, .inl (τ 0, 6, .inl (ar (fun _ => 0)))), (k0_4, .inl (τ 0, 6, .inl (ar (fun _ => 0)))), (p0_4, .inl (τ 0, 8, .inl (ar (fun _ => 0)))), (o0_4, .inl (τ 0, 8, .inl (ar (fun _ => 0)))), (f0_4, .inl (τ 0, 8, .inl (ar (fun _ => 0)))), (g0_4, .inl (τ 0, 8, .inl (ar (fun _ => 0)))), (a6, .inr (7, [.ref c0_7, .ref k0_7, .ref p0_7, .ref o0_7, .ref f0_7, .ref g0_7, .int (iI 0), .int (iI 0), .int (iI 0), .int (iI 0), .int (iI 0)])), (c0_7, .inl (τ 0, 6, .inl (ar (fun _ => 0)))), (k0_7, .inl (τ 0, 6, .inl (ar (fun _ => 0)))), (p0_7, .inl (τ 0, 8, .inl (ar (fun _ => 0)))), (o0_7, .inl (τ 0, 8, .inl (ar (fun _ => 0)))), (f0_7, .inl (τ 0, 8, .inl (ar (fun _ => 0)))), (g0_7, .inl (τ 0, 8, .inl (ar (fun _ => 0))))] H locs := hw
  refine r_aastS (f' := (va_up (va_up (fun _ => none) 0 (some a3)) 1 (some a6))) (ws' := [(h7, .inr (2, [.ref a1, .int (iI 0), .int (iI 0)])), (a1, .inl (τ 3, 15, rfs (va_up (va_up (fun _ => none) 0 (some a3)) 1 (some a6)))), (a3, .inr (7, [.ref c0_4, .ref k0_4, .ref p0_4, .ref o0_4, .ref f0_4, .ref g0_4, .int (iI 0), .int (iI 0), .int (iI 0), .int (iI 0), .int (iI 0)])), (c0_4, .inl (τ 0, 6, .inl (ar (fun _ => 0)))), (k0_4, .inl (τ 0, 6, .inl (ar (fun _ => 0)))), (p0_4, .inl (τ 0, 8, .inl (ar (fun _ => 0)))), (o0_4, .inl (τ 0, 8, .inl (ar (fun _ => 0)))), (f0_4, .inl (τ 0, 8, .inl (ar (fun _ => 0)))), (g0_4, .inl (τ 0, 8, .inl (ar (fun _ => 0)))), (a6, .inr (7, [.ref c0_7, .ref k0_7, .ref p0_7, .ref o0_7, .ref f0_7, .ref g0_7, .int (iI 0), .int (iI 0), .int (iI 0), .int (iI 0), .int (iI 0)])), (c0_7, .inl (τ 0, 6, .inl (ar (fun _ => 0)))), (k0_7, .inl (τ 0, 6, .inl (ar (fun _ => 0)))), (p0_7, .inl (τ 0, 8, .inl (ar (fun _ => 0)))), (o0_7, .inl (τ 0, 8, .inl (ar (fun _ => 0)))), (f0_7, .inl (τ 0, 8, .inl (ar (fun _ => 0)))), (g0_7, .inl (τ 0, 8, .inl (ar (fun _ => 0))))]) hx hb hC hw 1 9 rfl rfl (by decide) (by decide) (by decide) rfl rfl dX1_init_43 (fun H locs hw => ?_)
  have hw : wS D A s.heap [(h7, .inr (2, [.ref a1, .int (iI 0), .int (iI 0)])), (a1, .inl (τ 3, 15, rfs (va_up (va_up (fun _ => none) 0 (some a3)) 1 (some a6)))), (a3, .inr (7, [.ref c0_4, .ref k0_4, .ref p0_4, .ref o0_4, .ref f0_4, .ref g0_4, .int (iI 0), .int (iI 0), .int (iI 0), .int (iI 0), .int (iI 0)])), (c0_4, .inl (τ 0, 6, .inl (ar (fun _ => 0)))), (k0_4, .inl (τ 0, 6, .inl (ar (fun _ => 0)))), (p0_4, .inl (τ 0, 8, .inl (ar (fun _ => 0)))), (o0_4, .inl (τ 0, 8, .inl (ar (fun _ => 0)))), (f0_4, .inl (τ 0, 8, .inl (ar (fun _ => 0)))), (g0_4, .inl (τ 0, 8, .inl (ar (fun _ => 0))))] H _ := hw.pick [0, 1, 2, 3, 4, 5, 6, 7, 8] (by decide) rfl
  refine r_iinc (v := 2) (lv' := [(1, .int (iI 2)), (0, .ref h7)]) hx hb dX1_init_44 hl (k := 0) rfl rfl (by decide) rfl (fun ls hl => ?_)
  refine lv_goto (tgt := 25) hx hb dX1_init_47 (by decide) ?_
  refine lv_iload_n hx hb dX1_init_25 rfl (lv_at hl 0 rfl) ?_
  refine r_bipush hx hb dX1_init_26 (by decide +kernel) ?_
  refine r_icmp_ge (tgt := 50) hx hb dX1_init_28 (by decide) (by decide) (by decide) (fun hbr8 => (by exfalso; omega)) (fun hbr8 => ?_)
  refine lv_aload_n hx hb dX1_init_31 rfl (lv_at hl 1 rfl) ?_
  refine gf_X1_11 hx hb hC hw 0 rfl rfl dX1_init_32 ?_
  refine lv_iload_n hx hb dX1_init_35 rfl (lv_at hl 0 rfl) ?_
  refine r_new (ci := 7) (fs := [.null, .null, .null, .null, .null, .null, .int (iI 0), .int (iI 0), .int (iI 0), .int (iI 0), .int (iI 0)]) hx hb hC hA hw iX6 tyX6 tyX6_ok rfl cl_X1_9 it_X6 in_X6 df_X6 (by decide) (by decide) rfl rfl dX1_init_36 (fun a9 H hw => ?_)
  have hw : wS D A s.heap [(h7, .inr (2, [.ref a1, .int (iI 0), .int (iI 0)])), (a1, .inl (τ 3, 15, rfs (va_up (va_up (fun _ => none) 0 (some a3)) 1 (some a6)))), (a3, .inr (7, [.ref c0_4, .ref k0_4, .ref p0_4, .ref o0_4, .ref f0_4, .ref g0_4, .int (iI 0), .int (iI 0), .int (iI 0), .int (iI 0), .int (iI 0)])), (c0_4, .inl (τ 0, 6, .inl (ar (fun _ => 0)))), (k0_4, .inl (τ 0, 6, .inl (ar (fun _ => 0)))), (p0_4, .inl (τ 0, 8, .inl (ar (fun _ => 0)))), (o0_4, .inl (τ 0, 8, .inl (ar (fun _ => 0)))), (f0_4, .inl (τ 0, 8, .inl (ar (fun _ => 0)))), (g0_4, .inl (τ 0, 8, .inl (ar (fun _ => 0)))), (a9, .inr (7, [.null, .null, .null, .null, .null, .null, .int (iI 0), .int (iI 0), .int (iI 0), .int (iI 0), .int (iI 0)]))] H _ := hw
  refine lv_dup hx hb dX1_init_39 rfl ?_
  refine g_cINv (wr := [(h7, .inr (2, [.ref a1, .int (iI 0), .int (iI 0)])), (a1, .inl (τ 3, 15, rfs (va_up (va_up (fun _ => none) 0 (some a3)) 1 (some a6)))), (a3, .inr (7, [.ref c0_4, .ref k0_4, .ref p0_4, .ref o0_4, .ref f0_4, .ref g0_4, .int (iI 0), .int (iI 0), .int (iI 0), .int (iI 0), .int (iI 0)])), (c0_4, .inl (τ 0, 6, .inl (ar (fun _ => 0)))), (k0_4, .inl (τ 0, 6, .inl (ar (fun _ => 0)))), (p0_4, .inl (τ 0, 8, .inl (ar (fun _ => 0)))), (o0_4, .inl (τ 0, 8, .inl (ar (fun _ => 0)))), (f0_4, .inl (τ 0, 8, .inl (ar (fun _ => 0)))), (g0_4, .inl (τ 0, 8, .inl (ar (fun _ => 0))))]) hx hb hml hC hA hw hl.1 (c_Scene_init l D τ _ a9 ) kX6_init ml_X1_24 [9] [0, 1, 2, 3, 4, 5, 6, 7, 8] rfl rfl (by decide) (by decide) (by decide) rfl rfl (Nat.le_of_ble_eq_true rfl) ⟨by decide, by decide⟩ ⟨by decide, by decide⟩ rfl rfl dX1_init_40 (fun w10 H locs hE10 hw => ?_)
  obtain ⟨c0_10, k0_10, p0_10, o0_10, f0_10, g0_10, hq10, rfl⟩ := hE10
  have hw : wS D A s.heap [(h7, .inr (2, [.ref a1, .int (iI 0), .int (iI 0)])), (a1, .inl (τ 3, 15, rfs (va_up (va_up (fun _ => none) 0 (some a3)) 1 (some a6)))), (a3, .inr (7, [.ref c0_4, .ref k0_4, .ref p0_4, .ref o0_4, .ref f0_4, .ref g0_4, .int (iI 0), .int (iI 0), .int (iI 0), .int (iI 0), .int (iI 0)])), (c0_4, .inl (τ 0, 6, .inl (ar (fun _ => 0)))), (k0_4, .inl (τ 0, 6, .inl (ar (fun _ => 0)))), (p0_4, .inl (τ 0, 8, .inl (ar (fun _ => 0)))), (o0_4, .inl (τ 0, 8, .inl (ar (fun _ => 0)))), (f0_4, .inl (τ 0, 8, .inl (ar (fun _ => 0)))), (g0_4, .inl (τ 0, 8, .inl (ar (fun _ => 0)))), (a9, .inr (7, [.ref c0_10, .ref k0_10, .ref p0_10, .ref o0_10, .ref f0_10, .ref g0_10, .int (iI 0), .int (iI 0), .int (iI 0), .int (iI 0), .int (iI 0)])), (c0_10, .inl (τ 0, 6, .inl (ar (fun _ => 0)))), (k0_10, .inl (τ 0, 6, .inl (ar (fun _ => 0)))), (p0_10, .inl (τ 0, 8, .inl (ar (fun _ => 0)))), (o0_10, .inl (τ 0, 8, .inl (ar (fun _ => 0)))), (f0_10, .inl (τ 0, 8, .inl (ar (fun _ => 0)))), (g0_10, .inl (τ 0, 8, .inl (ar (fun _ => 0))))] H locs := hw
  refine r_aastS (f' := (va_up (va_up (va_up (fun _ => none) 0 (some a3)) 1 (some a6)) 2 (some a9))) (ws' := [(h7, .inr (2, [.ref a1, .int (iI 0), .int (iI 0)])), (a1, .inl (τ 3, 15, rfs (va_up (va_up (va_up (fun _ => none) 0 (some a3)) 1 (some a6)) 2 (some a9)))), (a3, .inr (7, [.ref c0_4, .ref k0_4, .ref p0_4, .ref o0_4, .ref f0_4, .ref g0_4, .int (iI 0), .int (iI 0), .int (iI 0), .int (iI 0), .int (iI 0)])), (c0_4, .inl (τ 0, 6, .inl (ar (fun _ => 0)))), (k0_4, .inl (τ 0, 6, .inl (ar (fun _ => 0)))), (p0_4, .inl (τ 0, 8, .inl (ar (fun _ => 0)))), (o0_4, .inl (τ 0, 8, .inl (ar (fun _ => 0)))), (f0_4, .inl (τ 0, 8, .inl (ar (fun _ => 0)))), (g0_4, .inl (τ 0, 8, .inl (ar (fun _ => 0)))), (a9, .inr (7, [.ref c0_10, .ref k0_10, .ref p0_10, .ref o0_10, .ref f0_10, .ref g0_10, .int (iI 0), .int (iI 0), .int (iI 0), .int (iI 0), .int (iI 0)])), (c0_10, .inl (τ 0, 6, .inl (ar (fun _ => 0)))), (k0_10, .inl (τ 0, 6, .inl (ar (fun _ => 0)))), (p0_10, .inl (τ 0, 8, .inl (ar (fun _ => 0)))), (o0_10, .inl (τ 0, 8, .inl (ar (fun _ => 0)))), (f0_10, .inl (τ 0, 8, .inl (ar (fun _ => 0)))), (g0_10, .inl (τ 0, 8, .inl (ar (fun _ => 0))))]) hx hb hC hw 1 9 rfl rfl (by decide) (by decide) (by decide) rfl rfl dX1_init_43 (fun H locs hw => ?_)
  have hw : wS D A s.heap [(h7, .inr (2, [.ref a1, .int (iI 0), .int (iI 0)])), (a1, .inl (τ 3, 15, rfs (va_up (va_up (va_up (fun _ => none) 0 (some a3)) 1 (some a6)) 2 (some a9)))), (a3, .inr (7, [.ref c0_4, .ref k0_4, .ref p0_4, .ref o0_4, .ref f0_4, .ref g0_4, .int (iI 0), .int (iI 0), .int (iI 0), .int (iI 0), .int (iI 0)])), (c0_4, .inl (τ 0, 6, .inl (ar (fun _ => 0)))), (k0_4, .inl (τ 0, 6, .inl (ar (fun _ => 0)))), (p0_4, .inl (τ 0, 8, .inl (ar (fun _ => 0)))), (o0_4, .inl (τ 0, 8, .inl (ar (fun _ => 0)))), (f0_4, .inl (τ 0, 8, .inl (ar (fun _ => 0)))), (g0_4, .inl (τ 0, 8, .inl (ar (fun _ => 0))))] H _ := hw.pick [0, 1, 2, 3, 4, 5, 6, 7, 8] (by decide) rfl
  refine r_iinc (v := 3) (lv' := [(1, .int (iI 3)), (0, .ref h7)]) hx hb dX1_init_44 hl (k := 0) rfl rfl (by decide) rfl (fun ls hl => ?_)
  refine lv_goto (tgt := 25) hx hb dX1_init_47 (by decide) ?_
  refine lv_iload_n hx hb dX1_init_25 rfl (lv_at hl 0 rfl) ?_
  refine r_bipush hx hb dX1_init_26 (by decide +kernel) ?_
  refine r_icmp_ge (tgt := 50) hx hb dX1_init_28 (by decide) (by decide) (by decide) (fun hbr11 => (by exfalso; omega)) (fun hbr11 => ?_)
  refine lv_aload_n hx hb dX1_init_31 rfl (lv_at hl 1 rfl) ?_
  refine gf_X1_11 hx hb hC hw 0 rfl rfl dX1_init_32 ?_
  refine lv_iload_n hx hb dX1_init_35 rfl (lv_at hl 0 rfl) ?_
  refine r_new (ci := 7) (fs := [.null, .null, .null, .null, .null, .null, .int (iI 0), .int (iI 0), .int (iI 0), .int (iI 0), .int (iI 0)]) hx hb hC hA hw iX6 tyX6 tyX6_ok rfl cl_X1_9 it_X6 in_X6 df_X6 (by decide) (by decide) rfl rfl dX1_init_36 (fun a12 H hw => ?_)
  have hw : wS D A s.heap [(h7, .inr (2, [.ref a1, .int (iI 0), .int (iI 0)])), (a1, .inl (τ 3, 15, rfs (va_up (va_up (va_up (fun _ => none) 0 (some a3)) 1 (some a6)) 2 (some a9)))), (a3, .inr (7, [.ref c0_4, .ref k0_4, .ref p0_4, .ref o0_4, .ref f0_4, .ref g0_4, .int (iI 0), .int (iI 0), .int (iI 0), .int (iI 0), .int (iI 0)])), (c0_4, .inl (τ 0, 6, .inl (ar (fun _ => 0)))), (k0_4, .inl (τ 0, 6, .inl (ar (fun _ => 0)))), (p0_4, .inl (τ 0, 8, .inl (ar (fun _ => 0)))), (o0_4, .inl (τ 0, 8, .inl (ar (fun _ => 0)))), (f0_4, .inl (τ 0, 8, .inl (ar (fun _ => 0)))), (g0_4, .inl (τ 0, 8, .inl (ar (fun _ => 0)))), (a12, .inr (7, [.null, .null, .null, .null, .null, .null, .int (iI 0), .int (iI 0), .int (iI 0), .int (iI 0), .int (iI 0)]))] H _ := hw
  refine lv_dup hx hb dX1_init_39 rfl ?_
  refine g_cINv (wr := [(h7, .inr (2, [.ref a1, .int (iI 0), .int (iI 0)])), (a1, .inl (τ 3, 15, rfs (va_up (va_up (va_up (fun _ => none) 0 (some a3)) 1 (some a6)) 2 (some a9)))), (a3, .inr (7, [.ref c0_4, .ref k0_4, .ref p0_4, .ref o0_4, .ref f0_4, .ref g0_4, .int (iI 0), .int (iI 0), .int (iI 0), .int (iI 0), .int (iI 0)])), (c0_4, .inl (τ 0, 6, .inl (ar (fun _ => 0)))), (k0_4, .inl (τ 0, 6, .inl (ar (fun _ => 0)))), (p0_4, .inl (τ 0, 8, .inl (ar (fun _ => 0)))), (o0_4, .inl (τ 0, 8, .inl (ar (fun _ => 0)))), (f0_4, .inl (τ 0, 8, .inl (ar (fun _ => 0)))), (g0_4, .inl (τ 0, 8, .inl (ar (fun _ => 0))))]) hx hb hml hC hA hw hl.1 (c_Scene_init l D τ _ a12 ) kX6_init ml_X1_24 [9] [0, 1, 2, 3, 4, 5, 6, 7, 8] rfl rfl (by decide) (by decide) (by decide) rfl rfl (Nat.le_of_ble_eq_true rfl) ⟨by decide, by decide⟩ ⟨by decide, by decide⟩ rfl rfl dX1_init_40 (fun w13 H locs hE13 hw => ?_)
  obtain ⟨c0_13, k0_13, p0_13, o0_13, f0_13, g0_13, hq13, rfl⟩ := hE13
  have hw : wS D A s.heap [(h7, .inr (2, [.ref a1, .int (iI 0), .int (iI 0)])), (a1, .inl (τ 3, 15, rfs (va_up (va_up (va_up (fun _ => none) 0 (some a3)) 1 (some a6)) 2 (some a9)))), (a3, .inr (7, [.ref c0_4, .ref k0_4, .ref p0_4, .ref o0_4, .ref f0_4, .ref g0_4, .int (iI 0), .int (iI 0), .int (iI 0), .int (iI 0), .int (iI 0)])), (c0_4, .inl (τ 0, 6, .inl (ar (fun _ => 0)))), (k0_4, .inl (τ 0, 6, .inl (ar (fun _ => 0)))), (p0_4, .inl (τ 0, 8, .inl (ar (fun _ => 0)))), (o0_4, .inl (τ 0, 8, .inl (ar (fun _ => 0)))), (f0_4, .inl (τ 0, 8, .inl (ar (fun _ => 0)))), (g0_4, .inl (τ 0, 8, .inl (ar (fun _ => 0)))), (a12, .inr (7, [.ref c0_13, .ref k0_13, .ref p0_13, .ref o0_13, .ref f0_13, .ref g0_13, .int (iI 0), .int (iI 0), .int (iI 0), .int (iI 0), .int (iI 0)])), (c0_13, .inl (τ 0, 6, .inl (ar (fun _ => 0)))), (k0_13, .inl (τ 0, 6, .inl (ar (fun _ => 0)))), (p0_13, .inl (τ 0, 8, .inl (ar (fun _ => 0)))), (o0_13, .inl (τ 0, 8, .inl (ar (fun _ => 0)))), (f0_13, .inl (τ 0, 8, .inl (ar (fun _ => 0)))), (g0_13, .inl (τ 0, 8, .inl (ar (fun _ => 0))))] H locs := hw
  refine r_aastS (f' := (va_up (va_up (va_up (va_up (fun _ => none) 0 (some a3)) 1 (some a6)) 2 (some a9)) 3 (some a12))) (ws' := [(h7, .inr (2, [.ref a1, .int (iI 0), .int (iI 0)])), (a1, .inl (τ 3, 15, rfs (va_up (va_up (va_up (va_up (fun _ => none) 0 (some a3)) 1 (some a6)) 2 (some a9)) 3 (some a12)))), (a3, .inr (7, [.ref c0_4, .ref k0_4, .ref p0_4, .ref o0_4, .ref f0_4, .ref g0_4, .int (iI 0), .int (iI 0), .int (iI 0), .int (iI 0), .int (iI 0)])), (c0_4, .inl (τ 0, 6, .inl (ar (fun _ => 0)))), (k0_4, .inl (τ 0, 6, .inl (ar (fun _ => 0)))), (p0_4, .inl (τ 0, 8, .inl (ar (fun _ => 0)))), (o0_4, .inl (τ 0, 8, .inl (ar (fun _ => 0)))), (f0_4, .inl (τ 0, 8, .inl (ar (fun _ => 0)))), (g0_4, .inl (τ 0, 8, .inl (ar (fun _ => 0)))), (a12, .inr (7, [.ref c0_13, .ref k0_13, .ref p0_13, .ref o0_13, .ref f0_13, .ref g0_13, .int (iI 0), .int (iI 0), .int (iI 0), .int (iI 0), .int (iI 0)])), (c0_13, .inl (τ 0, 6, .inl (ar (fun _ => 0)))), (k0_13, .inl (τ 0, 6, .inl (ar (fun _ => 0)))), (p0_13, .inl (τ 0, 8, .inl (ar (fun _ => 0)))), (o0_13, .inl (τ 0, 8, .inl (ar (fun _ => 0)))), (f0_13, .inl (τ 0, 8, .inl (ar (fun _ => 0)))), (g0_13, .inl (τ 0, 8, .inl (ar (fun _ => 0))))]) hx hb hC hw 1 9 rfl rfl (by decide) (by decide) (by decide) rfl rfl dX1_init_43 (fun H locs hw => ?_)
  have hw : wS D A s.heap [(h7, .inr (2, [.ref a1, .int (iI 0), .int (iI 0)])), (a1, .inl (τ 3, 15, rfs (va_up (va_up (va_up (va_up (fun _ => none) 0 (some a3)) 1 (some a6)) 2 (some a9)) 3 (some a12)))), (a3, .inr (7, [.ref c0_4, .ref k0_4, .ref p0_4, .ref o0_4, .ref f0_4, .ref g0_4, .int (iI 0), .int (iI 0), .int (iI 0), .int (iI 0), .int (iI 0)])), (c0_4, .inl (τ 0, 6, .inl (ar (fun _ => 0)))), (k0_4, .inl (τ 0, 6, .inl (ar (fun _ => 0)))), (p0_4, .inl (τ 0, 8, .inl (ar (fun _ => 0)))), (o0_4, .inl (τ 0, 8, .inl (ar (fun _ => 0)))), (f0_4, .inl (τ 0, 8, .inl (ar (fun _ => 0)))), (g0_4, .inl (τ 0, 8, .inl (ar (fun _ => 0))))] H _ := hw.pick [0, 1, 2, 3, 4, 5, 6, 7, 8] (by decide) rfl
  refine r_iinc (v := 4) (lv' := [(1, .int (iI 4)), (0, .ref h7)]) hx hb dX1_init_44 hl (k := 0) rfl rfl (by decide) rfl (fun ls hl => ?_)
  refine lv_goto (tgt := 25) hx hb dX1_init_47 (by decide) ?_
  refine lv_iload_n hx hb dX1_init_25 rfl (lv_at hl 0 rfl) ?_
  refine r_bipush hx hb dX1_init_26 (by decide +kernel) ?_
  refine r_icmp_ge (tgt := 50) hx hb dX1_init_28 (by decide) (by decide) (by decide) (fun hbr14 => (by exfalso; omega)) (fun hbr14 => ?_)
  refine lv_aload_n hx hb dX1_init_31 rfl (lv_at hl 1 rfl) ?_
  refine gf_X1_11 hx hb hC hw 0 rfl rfl dX1_init_32 ?_
  refine lv_iload_n hx hb dX1_init_35 rfl (lv_at hl 0 rfl) ?_
  refine r_new (ci := 7) (fs := [.null, .null, .null, .null, .null, .null, .int (iI 0), .int (iI 0), .int (iI 0), .int (iI 0), .int (iI 0)]) hx hb hC hA hw iX6 tyX6 tyX6_ok rfl cl_X1_9 it_X6 in_X6 df_X6 (by decide) (by decide) rfl rfl dX1_init_36 (fun a15 H hw => ?_)
  have hw : wS D A s.heap [(h7, .inr (2, [.ref a1, .int (iI 0), .int (iI 0)])), (a1, .inl (τ 3, 15, rfs (va_up (va_up (va_up (va_up (fun _ => none) 0 (some a3)) 1 (some a6)) 2 (some a9)) 3 (some a12)))), (a3, .inr (7, [.ref c0_4, .ref k0_4, .ref p0_4, .ref o0_4, .ref f0_4, .ref g0_4, .int (iI 0), .int (iI 0), .int (iI 0), .int (iI 0), .int (iI 0)])), (c0_4, .inl (τ 0, 6, .inl (ar (fun _ => 0)))), (k0_4, .inl (τ 0, 6, .inl (ar (fun _ => 0)))), (p0_4, .inl (τ 0, 8, .inl (ar (fun _ => 0)))), (o0_4, .inl (τ 0, 8, .inl (ar (fun _ => 0)))), (f0_4, .inl (τ 0, 8, .inl (ar (fun _ => 0)))), (g0_4, .inl (τ 0, 8, .inl (ar (fun _ => 0)))), (a15, .inr (7, [.null, .null, .null, .null, .null, .null, .int (iI 0), .int (iI 0), .int (iI 0), .int (iI 0), .int (iI 0)]))] H _ := hw
  refine lv_dup hx hb dX1_init_39 rfl ?_
  refine g_cINv (wr := [(h7, .inr (2, [.ref a1, .int (iI 0), .int (iI 0)])), (a1, .inl (τ 3, 15, rfs (va_up (va_up (va_up (va_up (fun _ => none) 0 (some a3)) 1 (some a6)) 2 (some a9)) 3 (some a12)))), (a3, .inr (7, [.ref c0_4, .ref k0_4, .ref p0_4, .ref o0_4, .ref f0_4, .ref g0_4, .int (iI 0), .int (iI 0), .int (iI 0), .int (iI 0), .int (iI 0)])), (c0_4, .inl (τ 0, 6, .inl (ar (fun _ => 0)))), (k0_4, .inl (τ 0, 6, .inl (ar (fun _ => 0)))), (p0_4, .inl (τ 0, 8, .inl (ar (fun _ => 0)))), (o0_4, .inl (τ 0, 8, .inl (ar (fun _ => 0)))), (f0_4, .inl (τ 0, 8, .inl (ar (fun _ => 0)))), (g0_4, .inl (τ 0, 8, .inl (ar (fun _ => 0))))]) hx hb hml hC hA hw hl.1 (c_Scene_init l D τ _ a15 ) kX6_init ml_X1_24 [9] [0, 1, 2, 3, 4, 5, 6, 7, 8] rfl rfl (by decide) (by decide) (by decide) rfl rfl (Nat.le_of_ble_eq_true rfl) ⟨by decide, by decide⟩ ⟨by decide, by decide⟩ rfl rfl dX1_init_40 (fun w16 H locs hE16 hw => ?_)
  obtain ⟨c0_16, k0_16, p0_16, o0_16, f0_16, g0_16, hq16, rfl⟩ := hE16
  have hw : wS D A s.heap [(h7, .inr (2, [.ref a1, .int (iI 0), .int (iI 0)])), (a1, .inl (τ 3, 15, rfs (va_up (va_up (va_up (va_up (fun _ => none) 0 (some a3)) 1 (some a6)) 2 (some a9)) 3 (some a12)))), (a3, .inr (7, [.ref c0_4, .ref k0_4, .ref p0_4, .ref o0_4, .ref f0_4, .ref g0_4, .int (iI 0), .int (iI 0), .int (iI 0), .int (iI 0), .int (iI 0)])), (c0_4, .inl (τ 0, 6, .inl (ar (fun _ => 0)))), (k0_4, .inl (τ 0, 6, .inl (ar (fun _ => 0)))), (p0_4, .inl (τ 0, 8, .inl (ar (fun _ => 0)))), (o0_4, .inl (τ 0, 8, .inl (ar (fun _ => 0)))), (f0_4, .inl (τ 0, 8, .inl (ar (fun _ => 0)))), (g0_4, .inl (τ 0, 8, .inl (ar (fun _ => 0)))), (a15, .inr (7, [.ref c0_16, .ref k0_16, .ref p0_16, .ref o0_16, .ref f0_16, .ref g0_16, .int (iI 0), .int (iI 0), .int (iI 0), .int (iI 0), .int (iI 0)])), (c0_16, .inl (τ 0, 6, .inl (ar (fun _ => 0)))), (k0_16, .inl (τ 0, 6, .inl (ar (fun _ => 0)))), (p0_16, .inl (τ 0, 8, .inl (ar (fun _ => 0)))), (o0_16, .inl (τ 0, 8, .inl (ar (fun _ => 0)))), (f0_16, .inl (τ 0, 8, .inl (ar (fun _ => 0)))), (g0_16, .inl (τ 0, 8, .inl (ar (fun _ => 0))))] H locs := hw
  refine r_aastS (f' := (va_up (va_up (va_up (va_up (va_up (fun _ => none) 0 (some a3)) 1 (some a6)) 2 (some a9)) 3 (some a12)) 4 (some a15))) (ws' := [(h7, .inr (2, [.ref a1, .int (iI 0), .int (iI 0)])), (a1, .inl (τ 3, 15, rfs (va_up (va_up (va_up (va_up (va_up (fun _ => none) 0 (some a3)) 1 (some a6)) 2 (some a9)) 3 (some a12)) 4 (some a15)))), (a3, .inr (7, [.ref c0_4, .ref k0_4, .ref p0_4, .ref o0_4, .ref f0_4, .ref g0_4, .int (iI 0), .int (iI 0), .int (iI 0), .int (iI 0), .int (iI 0)])), (c0_4, .inl (τ 0, 6, .inl (ar (fun _ => 0)))), (k0_4, .inl (τ 0, 6, .inl (ar (fun _ => 0)))), (p0_4, .inl (τ 0, 8, .inl (ar (fun _ => 0)))), (o0_4, .inl (τ 0, 8, .inl (ar (fun _ => 0)))), (f0_4, .inl (τ 0, 8, .inl (ar (fun _ => 0)))), (g0_4, .inl (τ 0, 8, .inl (ar (fun _ => 0)))), (a15, .inr (7, [.ref c0_16, .ref k0_16, .ref p0_16, .ref o0_16, .ref f0_16, .ref g0_16, .int (iI 0), .int (iI 0), .int (iI 0), .int (iI 0), .int (iI 0)])), (c0_16, .inl (τ 0, 6, .inl (ar (fun _ => 0)))), (k0_16, .inl (τ 0, 6, .inl (ar (fun _ => 0)))), (p0_16, .inl (τ 0, 8, .inl (ar (fun _ => 0)))), (o0_16, .inl (τ 0, 8, .inl (ar (fun _ => 0)))), (f0_16, .inl (τ 0, 8, .inl (ar (fun _ => 0)))), (g0_16, .inl (τ 0, 8, .inl (ar (fun _ => 0))))]) hx hb hC hw 1 9 rfl rfl (by decide) (by decide) (by decide) rfl rfl dX1_init_43 (fun H locs hw => ?_)
  have hw : wS D A s.heap [(h7, .inr (2, [.ref a1, .int (iI 0), .int (iI 0)])), (a1, .inl (τ 3, 15, rfs (va_up (va_up (va_up (va_up (va_up (fun _ => none) 0 (some a3)) 1 (some a6)) 2 (some a9)) 3 (some a12)) 4 (some a15)))), (a3, .inr (7, [.ref c0_4, .ref k0_4, .ref p0_4, .ref o0_4, .ref f0_4, .ref g0_4, .int (iI 0), .int (iI 0), .int (iI 0), .int (iI 0), .int (iI 0)])), (c0_4, .inl (τ 0, 6, .inl (ar (fun _ => 0)))), (k0_4, .inl (τ 0, 6, .inl (ar (fun _ => 0)))), (p0_4, .inl (τ 0, 8, .inl (ar (fun _ => 0)))), (o0_4, .inl (τ 0, 8, .inl (ar (fun _ => 0)))), (f0_4, .inl (τ 0, 8, .inl (ar (fun _ => 0)))), (g0_4, .inl (τ 0, 8, .inl (ar (fun _ => 0))))] H _ := hw.pick [0, 1, 2, 3, 4, 5, 6, 7, 8] (by decide) rfl
  refine r_iinc (v := 5) (lv' := [(1, .int (iI 5)), (0, .ref h7)]) hx hb dX1_init_44 hl (k := 0) rfl rfl (by decide) rfl (fun ls hl => ?_)
  refine lv_goto (tgt := 25) hx hb dX1_init_47 (by decide) ?_
  refine lv_iload_n hx hb dX1_init_25 rfl (lv_at hl 0 rfl) ?_
  refine r_bipush hx hb dX1_init_26 (by decide +kernel) ?_
  refine r_icmp_ge (tgt := 50) hx hb dX1_init_28 (by decide) (by decide) (by decide) (fun hbr17 => (by exfalso; omega)) (fun hbr17 => ?_)
  refine lv_aload_n hx hb dX1_init_31 rfl (lv_at hl 1 rfl) ?_
  refine gf_X1_11 hx hb hC hw 0 rfl rfl dX1_init_32 ?_
  refine lv_iload_n hx hb dX1_init_35 rfl (lv_at hl 0 rfl) ?_
  refine r_new (ci := 7) (fs := [.null, .null, .null, .null, .null, .null, .int (iI 0), .int (iI 0), .int (iI 0), .int (iI 0), .int (iI 0)]) hx hb hC hA hw iX6 tyX6 tyX6_ok rfl cl_X1_9 it_X6 in_X6 df_X6 (by decide) (by decide) rfl rfl dX1_init_36 (fun a18 H hw => ?_)
  have hw : wS D A s.heap [(h7, .inr (2, [.ref a1, .int (iI 0), .int (iI 0)])), (a1, .inl (τ 3, 15, rfs (va_up (va_up (va_up (va_up (va_up (fun _ => none) 0 (some a3)) 1 (some a6)) 2 (some a9)) 3 (some a12)) 4 (some a15)))), (a3, .inr (7, [.ref c0_4, .ref k0_4, .ref p0_4, .ref o0_4, .ref f0_4, .ref g0_4, .int (iI 0), .int (iI 0), .int (iI 0), .int (iI 0), .int (iI 0)])), (c0_4, .inl (τ 0, 6, .inl (ar (fun _ => 0)))), (k0_4, .inl (τ 0, 6, .inl (ar (fun _ => 0)))), (p0_4, .inl (τ 0, 8, .inl (ar (fun _ => 0)))), (o0_4, .inl (τ 0, 8, .inl (ar (fun _ => 0)))), (f0_4, .inl (τ 0, 8, .inl (ar (fun _ => 0)))), (g0_4, .inl (τ 0, 8, .inl (ar (fun _ => 0)))), (a18, .inr (7, [.null, .null, .null, .null, .null, .null, .int (iI 0), .int (iI 0), .int (iI 0), .int (iI 0), .int (iI 0)]))] H _ := hw
  refine lv_dup hx hb dX1_init_39 rfl ?_
  refine g_cINv (wr := [(h7, .inr (2, [.ref a1, .int (iI 0), .int (iI 0)])), (a1, .inl (τ 3, 15, rfs (va_up (va_up (va_up (va_up (va_up (fun _ => none) 0 (some a3)) 1 (some a6)) 2 (some a9)) 3 (some a12)) 4 (some a15)))), (a3, .inr (7, [.ref c0_4, .ref k0_4, .ref p0_4, .ref o0_4, .ref f0_4, .ref g0_4, .int (iI 0), .int (iI 0), .int (iI 0), .int (iI 0), .int (iI 0)])), (c0_4, .inl (τ 0, 6, .inl (ar (fun _ => 0)))), (k0_4, .inl (τ 0, 6, .inl (ar (fun _ => 0)))), (p0_4, .inl (τ 0, 8, .inl (ar (fun _ => 0)))), (o0_4, .inl (τ 0, 8, .inl (ar (fun _ => 0)))), (f0_4, .inl (τ 0, 8, .inl (ar (fun _ => 0)))), (g0_4, .inl (τ 0, 8, .inl (ar (fun _ => 0))))]) hx hb hml hC hA hw hl.1 (c_Scene_init l D τ _ a18 ) kX6_init ml_X1_24 [9] [0, 1, 2, 3, 4, 5, 6, 7, 8] rfl rfl (by decide) (by decide) (by decide) rfl rfl (Nat.le_of_ble_eq_true rfl) ⟨by decide, by decide⟩ ⟨by decide, by decide⟩ rfl rfl dX1_init_40 (fun w19 H locs hE19 hw => ?_)
  obtain ⟨c0_19, k0_19, p0_19, o0_19, f0_19, g0_19, hq19, rfl⟩ := hE19
  have hw : wS D A s.heap [(h7, .inr (2, [.ref a1, .int (iI 0), .int (iI 0)])), (a1, .inl (τ 3, 15, rfs (va_up (va_up (va_up (va_up (va_up (fun _ => none) 0 (some a3)) 1 (some a6)) 2 (some a9)) 3 (some a12)) 4 (some a15)))), (a3, .inr (7, [.ref c0_4, .ref k0_4, .ref p0_4, .ref o0_4, .ref f0_4, .ref g0_4, .int (iI 0), .int (iI 0), .int (iI 0), .int (iI 0), .int (iI 0)])), (c0_4, .inl (τ 0, 6, .inl (ar (fun _ => 0)))), (k0_4, .inl (τ 0, 6, .inl (ar (fun _ => 0)))), (p0_4, .inl (τ 0, 8, .inl (ar (fun _ => 0)))), (o0_4, .inl (τ 0, 8, .inl (ar (fun _ => 0)))), (f0_4, .inl (τ 0, 8, .inl (ar (fun _ => 0)))), (g0_4, .inl (τ 0, 8, .inl (ar (fun _ => 0)))), (a18, .inr (7, [.ref c0_19, .ref k0_19, .ref p0_19, .ref o0_19, .ref f0_19, .ref g0_19, .int (iI 0), .int (iI 0), .int (iI 0), .int (iI 0), .int (iI 0)])), (c0_19, .inl (τ 0, 6, .inl (ar (fun _ => 0)))), (k0_19, .inl (τ 0, 6, .inl (ar (fun _ => 0)))), (p0_19, .inl (τ 0, 8, .inl (ar (fun _ => 0)))), (o0_19, .inl (τ 0, 8, .inl (ar (fun _ => 0)))), (f0_19, .inl (τ 0, 8, .inl (ar (fun _ => 0)))), (g0_19, .inl (τ 0, 8, .inl (ar (fun _ => 0))))] H locs := hw
  refine r_aastS (f' := (va_up (va_up (va_up (va_up (va_up (va_up (fun _ => none) 0 (some a3)) 1 (some a6)) 2 (some a9)) 3 (some a12)) 4 (some a15)) 5 (some a18))) (ws' := [(h7, .inr (2, [.ref a1, .int (iI 0), .int (iI 0)])), (a1, .inl (τ 3, 15, rfs (va_up (va_up (va_up (va_up (va_up (va_up (fun _ => none) 0 (some a3)) 1 (some a6)) 2 (some a9)) 3 (some a12)) 4 (some a15)) 5 (some a18)))), (a3, .inr (7, [.ref c0_4, .ref k0_4, .ref p0_4, .ref o0_4, .ref f0_4, .ref g0_4, .int (iI 0), .int (iI 0), .int (iI 0), .int (iI 0), .int (iI 0)])), (c0_4, .inl (τ 0, 6, .inl (ar (fun _ => 0)))), (k0_4, .inl (τ 0, 6, .inl (ar (fun _ => 0)))), (p0_4, .inl (τ 0, 8, .inl (ar (fun _ => 0)))), (o0_4, .inl (τ 0, 8, .inl (ar (fun _ => 0)))), (f0_4, .inl (τ 0, 8, .inl (ar (fun _ => 0)))), (g0_4, .inl (τ 0, 8, .inl (ar (fun _ => 0)))), (a18, .inr (7, [.ref c0_19, .ref k0_19, .ref p0_19, .ref o0_19, .ref f0_19, .ref g0_19, .int (iI 0), .int (iI 0), .int (iI 0), .int (iI 0), .int (iI 0)])), (c0_19, .inl (τ 0, 6, .inl (ar (fun _ => 0)))), (k0_19, .inl (τ 0, 6, .inl (ar (fun _ => 0)))), (p0_19, .inl (τ 0, 8, .inl (ar (fun _ => 0)))), (o0_19, .inl (τ 0, 8, .inl (ar (fun _ => 0)))), (f0_19, .inl (τ 0, 8, .inl (ar (fun _ => 0)))), (g0_19, .inl (τ 0, 8, .inl (ar (fun _ => 0))))]) hx hb hC hw 1 9 rfl rfl (by decide) (by decide) (by decide) rfl rfl dX1_init_43 (fun H locs hw => ?_)
  have hw : wS D A s.heap [(h7, .inr (2, [.ref a1, .int (iI 0), .int (iI 0)])), (a1, .inl (τ 3, 15, rfs (va_up (va_up (va_up (va_up (va_up (va_up (fun _ => none) 0 (some a3)) 1 (some a6)) 2 (some a9)) 3 (some a12)) 4 (some a15)) 5 (some a18)))), (a3, .inr (7, [.ref c0_4, .ref k0_4, .ref p0_4, .ref o0_4, .ref f0_4, .ref g0_4, .int (iI 0), .int (iI 0), .int (iI 0), .int (iI 0), .int (iI 0)])), (c0_4, .inl (τ 0, 6, .inl (ar (fun _ => 0)))), (k0_4, .inl (τ 0, 6, .inl (ar (fun _ => 0)))), (p0_4, .inl (τ 0, 8, .inl (ar (fun _ => 0)))), (o0_4, .inl (τ 0, 8, .inl (ar (fun _ => 0)))), (f0_4, .inl (τ 0, 8, .inl (ar (fun _ => 0)))), (g0_4, .inl (τ 0, 8, .inl (ar (fun _ => 0))))] H _ := hw.pick [0, 1, 2, 3, 4, 5, 6, 7, 8] (by decide) rfl
  refine r_iinc (v := 6) (lv' := [(1, .int (iI 6)), (0, .ref h7)]) hx hb dX1_init_44 hl (k := 0) rfl rfl (by decide) rfl (fun ls hl => ?_)
  refine lv_goto (tgt := 25) hx hb dX1_init_47 (by decide) ?_
  refine lv_iload_n hx hb dX1_init_25 rfl (lv_at hl 0 rfl) ?_
  refine r_bipush hx hb dX1_init_26 (by decide +kernel) ?_
  refine r_icmp_ge (tgt := 50) hx hb dX1_init_28 (by decide) (by decide) (by decide) (fun hbr20 => (by exfalso; omega)) (fun hbr20 => ?_)
  refine lv_aload_n hx hb dX1_init_31 rfl (lv_at hl 1 rfl) ?_
  refine gf_X1_11 hx hb hC hw 0 rfl rfl dX1_init_32 ?_
  refine lv_iload_n hx hb dX1_init_35 rfl (lv_at hl 0 rfl) ?_
  refine r_new (ci := 7) (fs := [.null, .null, .null, .null, .null, .null, .int (iI 0), .int (iI 0), .int (iI 0), .int (iI 0), .int (iI 0)]) hx hb hC hA hw iX6 tyX6 tyX6_ok rfl cl_X1_9 it_X6 in_X6 df_X6 (by decide) (by decide) rfl rfl dX1_init_36 (fun a21 H hw => ?_)
  have hw : wS D A s.heap [(h7, .inr (2, [.ref a1, .int (iI 0), .int (iI 0)])), (a1, .inl (τ 3, 15, rfs (va_up (va_up (va_up (va_up (va_up (va_up (fun _ => none) 0 (some a3)) 1 (some a6)) 2 (some a9)) 3 (some a12)) 4 (some a15)) 5 (some a18)))), (a3, .inr (7, [.ref c0_4, .ref k0_4, .ref p0_4, .ref o0_4, .ref f0_4, .ref g0_4, .int (iI 0), .int (iI 0), .int (iI 0), .int (iI 0), .int (iI 0)])), (c0_4, .inl (τ 0, 6, .inl (ar (fun _ => 0)))), (k0_4, .inl (τ 0, 6, .inl (ar (fun _ => 0)))), (p0_4, .inl (τ 0, 8, .inl (ar (fun _ => 0)))), (o0_4, .inl (τ 0, 8, .inl (ar (fun _ => 0)))), (f0_4, .inl (τ 0, 8, .inl (ar (fun _ => 0)))), (g0_4, .inl (τ 0, 8, .inl (ar (fun _ => 0)))), (a21, .inr (7, [.null, .null, .null, .null, .null, .null, .int (iI 0), .int (iI 0), .int (iI 0), .int (iI 0), .int (iI 0)]))] H _ := hw
  refine lv_dup hx hb dX1_init_39 rfl ?_
  refine g_cINv (wr := [(h7, .inr (2, [.ref a1, .int (iI 0), .int (iI 0)])), (a1, .inl (τ 3, 15, rfs (va_up (va_up (va_up (va_up (va_up (va_up (fun _ => none) 0 (some a3)) 1 (some a6)) 2 (some a9)) 3 (some a12)) 4 (some a15)) 5 (some a18)))), (a3, .inr (7, [.ref c0_4, .ref k0_4, .ref p0_4, .ref o0_4, .ref f0_4, .ref g0_4, .int (iI 0), .int (iI 0), .int (iI 0), .int (iI 0), .int (iI 0)])), (c0_4, .inl (τ 0, 6, .inl (ar (fun _ => 0)))), (k0_4, .inl (τ 0, 6, .inl (ar (fun _ => 0)))), (p0_4, .inl (τ 0, 8, .inl (ar (fun _ => 0)))), (o0_4, .inl (τ 0, 8, .inl (ar (fun _ => 0)))), (f0_4, .inl (τ 0, 8, .inl (ar (fun _ => 0)))), (g0_4, .inl (τ 0, 8, .inl (ar (fun _ => 0))))]) hx hb hml hC hA hw hl.1 (c_Scene_init l D τ _ a21 ) kX6_init ml_X1_24 [9] [0, 1, 2, 3, 4, 5, 6, 7, 8] rfl rfl (by decide) (by decide) (by decide) rfl rfl (Nat.le_of_ble_eq_true rfl) ⟨by decide, by decide⟩ ⟨by decide, by decide⟩ rfl rfl dX1_init_40 (fun w22 H locs hE22 hw => ?_)
  obtain ⟨c0_22, k0_22, p0_22, o0_22, f0_22, g0_22, hq22, rfl⟩ := hE22
  have hw : wS D A s.heap [(h7, .inr (2, [.ref a1, .int (iI 0), .int (iI 0)])), (a1, .inl (τ 3, 15, rfs (va_up (va_up (va_up (va_up (va_up (va_up (fun _ => none) 0 (some a3)) 1 (some a6)) 2 (some a9)) 3 (some a12)) 4 (some a15)) 5 (some a18)))), (a3, .inr (7, [.ref c0_4, .ref k0_4, .ref p0_4, .ref o0_4, .ref f0_4, .ref g0_4, .int (iI 0), .int (iI 0), .int (iI 0), .int (iI 0), .int (iI 0)])), (c0_4, .inl (τ 0, 6, .inl (ar (fun _ => 0)))), (k0_4, .inl (τ 0, 6, .inl (ar (fun _ => 0)))), (p0_4, .inl (τ 0, 8, .inl (ar (fun _ => 0)))), (o0_4, .inl (τ 0, 8, .inl (ar (fun _ => 0)))), (f0_4, .inl (τ 0, 8, .inl (ar (fun _ => 0)))), (g0_4, .inl (τ 0, 8, .inl (ar (fun _ => 0)))), (a21, .inr (7, [.ref c0_22, .ref k0_22, .ref p0_22, .ref o0_22, .ref f0_22, .ref g0_22, .int (iI 0), .int (iI 0), .int (iI 0), .int (iI 0), .int (iI 0)])), (c0_22, .inl (τ 0, 6, .inl (ar (fun _ => 0)))), (k0_22, .inl (τ 0, 6, .inl (ar (fun _ => 0)))), (p0_22, .inl (τ 0, 8, .inl (ar (fun _ => 0)))), (o0_22, .inl (τ 0, 8, .inl (ar (fun _ => 0)))), (f0_22, .inl (τ 0, 8, .inl (ar (fun _ => 0)))), (g0_22, .inl (τ 0, 8, .inl (ar (fun _ => 0))))] H locs := hw
  refine r_aastS (f' := (va_up (va_up (va_up (va_up (va_up (va_up (va_up (fun _ => none) 0 (some a3)) 1 (some a6)) 2 (some a9)) 3 (some a12)) 4 (some a15)) 5 (some a18)) 6 (some a21))) (ws' := [(h7, .inr (2, [.ref a1, .int (iI 0), .int (iI 0)])), (a1, .inl (τ 3, 15, rfs (va_up (va_up (va_up (va_up (va_up (va_up (va_up (fun _ => none) 0 (some a3)) 1 (some a6)) 2 (some a9)) 3 (some a12)) 4 (some a15)) 5 (some a18)) 6 (some a21)))), (a3, .inr (7, [.ref c0_4, .ref k0_4, .ref p0_4, .ref o0_4, .ref f0_4, .ref g0_4, .int (iI 0), .int (iI 0), .int (iI 0), .int (iI 0), .int (iI 0)])), (c0_4, .inl (τ 0, 6, .inl (ar (fun _ => 0)))), (k0_4, .inl (τ 0, 6, .inl (ar (fun _ => 0)))), (p0_4, .inl (τ 0, 8, .inl (ar (fun _ => 0)))), (o0_4, .inl (τ 0, 8, .inl (ar (fun _ => 0)))), (f0_4, .inl (τ 0, 8, .inl (ar (fun _ => 0)))), (g0_4, .inl (τ 0, 8, .inl (ar (fun _ => 0)))), (a21, .inr (7, [.ref c0_22, .ref k0_22, .ref p0_22, .ref o0_22, .ref f0_22, .ref g0_22, .int (iI 0), .int (iI 0), .int (iI 0), .int (iI 0), .int (iI 0)])), (c0_22, .inl (τ 0, 6, .inl (ar (fun _ => 0)))), (k0_22, .inl (τ 0, 6, .inl (ar (fun _ => 0)))), (p0_22, .inl (τ 0, 8, .inl (ar (fun _ => 0)))), (o0_22, .inl (τ 0, 8, .inl (ar (fun _ => 0)))), (f0_22, .inl (τ 0, 8, .inl (ar (fun _ => 0)))), (g0_22, .inl (τ 0, 8, .inl (ar (fun _ => 0))))]) hx hb hC hw 1 9 rfl rfl (by decide) (by decide) (by decide) rfl rfl dX1_init_43 (fun H locs hw => ?_)
  have hw : wS D A s.heap [(h7, .inr (2, [.ref a1, .int (iI 0), .int (iI 0)])), (a1, .inl (τ 3, 15, rfs (va_up (va_up (va_up (va_up (va_up (va_up (va_up (fun _ => none) 0 (some a3)) 1 (some a6)) 2 (some a9)) 3 (some a12)) 4 (some a15)) 5 (some a18)) 6 (some a21)))), (a3, .inr (7, [.ref c0_4, .ref k0_4, .ref p0_4, .ref o0_4, .ref f0_4, .ref g0_4, .int (iI 0), .int (iI 0), .int (iI 0), .int (iI 0), .int (iI 0)])), (c0_4, .inl (τ 0, 6, .inl (ar (fun _ => 0)))), (k0_4, .inl (τ 0, 6, .inl (ar (fun _ => 0)))), (p0_4, .inl (τ 0, 8, .inl (ar (fun _ => 0)))), (o0_4, .inl (τ 0, 8, .inl (ar (fun _ => 0)))), (f0_4, .inl (τ 0, 8, .inl (ar (fun _ => 0)))), (g0_4, .inl (τ 0, 8, .inl (ar (fun _ => 0))))] H _ := hw.pick [0, 1, 2, 3, 4, 5, 6, 7, 8] (by decide) rfl
  refine r_iinc (v := 7) (lv' := [(1, .int (iI 7)), (0, .ref h7)]) hx hb dX1_init_44 hl (k := 0) rfl rfl (by decide) rfl (fun ls hl => ?_)
  refine lv_goto (tgt := 25) hx hb dX1_init_47 (by decide) ?_
  refine lv_iload_n hx hb dX1_init_25 rfl (lv_at hl 0 rfl) ?_
  refine r_bipush hx hb dX1_init_26 (by decide +kernel) ?_
  refine r_icmp_ge (tgt := 50) hx hb dX1_init_28 (by decide) (by decide) (by decide) (fun hbr23 => (by exfalso; omega)) (fun hbr23 => ?_)
  refine lv_aload_n hx hb dX1_init_31 rfl (lv_at hl 1 rfl) ?_
  refine gf_X1_11 hx hb hC hw 0 rfl rfl dX1_init_32 ?_
  refine lv_iload_n hx hb dX1_init_35 rfl (lv_at hl 0 rfl) ?_
  refine r_new (ci := 7) (fs := [.null, .null, .null, .null, .null, .null, .int (iI 0), .int (iI 0), .int (iI 0), .int (iI 0), .int (iI 0)]) hx hb hC hA hw iX6 tyX6 tyX6_ok rfl cl_X1_9 it_X6 in_X6 df_X6 (by decide) (by decide) rfl rfl dX1_init_36 (fun a24 H hw => ?_)
  have hw : wS D A s.heap [(h7, .inr (2, [.ref a1, .int (iI 0), .int (iI 0)])), (a1, .inl (τ 3, 15, rfs (va_up (va_up (va_up (va_up (va_up (va_up (va_up (fun _ => none) 0 (some a3)) 1 (some a6)) 2 (some a9)) 3 (some a12)) 4 (some a15)) 5 (some a18)) 6 (some a21)))), (a3, .inr (7, [.ref c0_4, .ref k0_4, .ref p0_4, .ref o0_4, .ref f0_4, .ref g0_4, .int (iI 0), .int (iI 0), .int (iI 0), .int (iI 0), .int (iI 0)])), (c0_4, .inl (τ 0, 6, .inl (ar (fun _ => 0)))), (k0_4, .inl (τ 0, 6, .inl (ar (fun _ => 0)))), (p0_4, .inl (τ 0, 8, .inl (ar (fun _ => 0)))), (o0_4, .inl (τ 0, 8, .inl (ar (fun _ => 0)))), (f0_4, .inl (τ 0, 8, .inl (ar (fun _ => 0)))), (g0_4, .inl (τ 0, 8, .inl (ar (fun _ => 0)))), (a24, .inr (7, [.null, .null, .null, .null, .null, .null, .int (iI 0), .int (iI 0), .int (iI 0), .int (iI 0), .int (iI 0)]))] H _ := hw
  refine lv_dup hx hb dX1_init_39 rfl ?_
  refine g_cINv (wr := [(h7, .inr (2, [.ref a1, .int (iI 0), .int (iI 0)])), (a1, .inl (τ 3, 15, rfs (va_up (va_up (va_up (va_up (va_up (va_up (va_up (fun _ => none) 0 (some a3)) 1 (some a6)) 2 (some a9)) 3 (some a12)) 4 (some a15)) 5 (some a18)) 6 (some a21)))), (a3, .inr (7, [.ref c0_4, .ref k0_4, .ref p0_4, .ref o0_4, .ref f0_4, .ref g0_4, .int (iI 0), .int (iI 0), .int (iI 0), .int (iI 0), .int (iI 0)])), (c0_4, .inl (τ 0, 6, .inl (ar (fun _ => 0)))), (k0_4, .inl (τ 0, 6, .inl (ar (fun _ => 0)))), (p0_4, .inl (τ 0, 8, .inl (ar (fun _ => 0)))), (o0_4, .inl (τ 0, 8, .inl (ar (fun _ => 0)))), (f0_4, .inl (τ 0, 8, .inl (ar (fun _ => 0)))), (g0_4, .inl (τ 0, 8, .inl (ar (fun _ => 0))))]) hx hb hml hC hA hw hl.1 (c_Scene_init l D τ _ a24 ) kX6_init ml_X1_24 [9] [0, 1, 2, 3, 4, 5, 6, 7, 8] rfl rfl (by decide) (by decide) (by decide) rfl rfl (Nat.le_of_ble_eq_true rfl) ⟨by decide, by decide⟩ ⟨by decide, by decide⟩ rfl rfl dX1_init_40 (fun w25 H locs hE25 hw => ?_)
  obtain ⟨c0_25, k0_25, p0_25, o0_25, f0_25, g0_25, hq25, rfl⟩ := hE25
  have hw : wS D A s.heap [(h7, .inr (2, [.ref a1, .int (iI 0), .int (iI 0)])), (a1, .inl (τ 3, 15, rfs (va_up (va_up (va_up (va_up (va_up (va_up (va_up (fun _ => none) 0 (some a3)) 1 (some a6)) 2 (some a9)) 3 (some a12)) 4 (some a15)) 5 (some a18)) 6 (some a21)))), (a3, .inr (7, [.ref c0_4, .ref k0_4, .ref p0_4, .ref o0_4, .ref f0_4, .ref g0_4, .int (iI 0), .int (iI 0), .int (iI 0), .int (iI 0), .int (iI 0)])), (c0_4, .inl (τ 0, 6, .inl (ar (fun _ => 0)))), (k0_4, .inl (τ 0, 6, .inl (ar (fun _ => 0)))), (p0_4, .inl (τ 0, 8, .inl (ar (fun _ => 0)))), (o0_4, .inl (τ 0, 8, .inl (ar (fun _ => 0)))), (f0_4, .inl (τ 0, 8, .inl (ar (fun _ => 0)))), (g0_4, .inl (τ 0, 8, .inl (ar (fun _ => 0)))), (a24, .inr (7, [.ref c0_25, .ref k0_25, .ref p0_25, .ref o0_25, .ref f0_25, .ref g0_25, .int (iI 0), .int (iI 0), .int (iI 0), .int (iI 0), .int (iI 0)])), (c0_25, .inl (τ 0, 6, .inl (ar (fun _ => 0)))), (k0_25, .inl (τ 0, 6, .inl (ar (fun _ => 0)))), (p0_25, .inl (τ 0, 8, .inl (ar (fun _ => 0)))), (o0_25, .inl (τ 0, 8, .inl (ar (fun _ => 0)))), (f0_25, .inl (τ 0, 8, .inl (ar (fun _ => 0)))), (g0_25, .inl (τ 0, 8, .inl (ar (fun _ => 0))))] H locs := hw
  refine r_aastS (f' := (va_up (va_up (va_up (va_up (va_up (va_up (va_up (va_up (fun _ => none) 0 (some a3)) 1 (some a6)) 2 (some a9)) 3 (some a12)) 4 (some a15)) 5 (some a18)) 6 (some a21)) 7 (some a24))) (ws' := [(h7, .inr (2, [.ref a1, .int (iI 0), .int (iI 0)])), (a1, .inl (τ 3, 15, rfs (va_up (va_up (va_up (va_up (va_up (va_up (va_up (va_up (fun _ => none) 0 (some a3)) 1 (some a6)) 2 (some a9)) 3 (some a12)) 4 (some a15)) 5 (some a18)) 6 (some a21)) 7 (some a24)))), (a3, .inr (7, [.ref c0_4, .ref k0_4, .ref p0_4, .ref o0_4, .ref f0_4, .ref g0_4, .int (iI 0), .int (iI 0), .int (iI 0), .int (iI 0), .int (iI 0)])), (c0_4, .inl (τ 0, 6, .inl (ar (fun _ => 0)))), (k0_4, .inl (τ 0, 6, .inl (ar (fun _ => 0)))), (p0_4, .inl (τ 0, 8, .inl (ar (fun _ => 0)))), (o0_4, .inl (τ 0, 8, .inl (ar (fun _ => 0)))), (f0_4, .inl (τ 0, 8, .inl (ar (fun _ => 0)))), (g0_4, .inl (τ 0, 8, .inl (ar (fun _ => 0)))), (a24, .inr (7, [.ref c0_25, .ref k0_25, .ref p0_25, .ref o0_25, .ref f0_25, .ref g0_25, .int (iI 0), .int (iI 0), .int (iI 0), .int (iI 0), .int (iI 0)])), (c0_25, .inl (τ 0, 6, .inl (ar (fun _ => 0)))), (k0_25, .inl (τ 0, 6, .inl (ar (fun _ => 0)))), (p0_25, .inl (τ 0, 8, .inl (ar (fun _ => 0)))), (o0_25, .inl (τ 0, 8, .inl (ar (fun _ => 0)))), (f0_25, .inl (τ 0, 8, .inl (ar (fun _ => 0)))), (g0_25, .inl (τ 0, 8, .inl (ar (fun _ => 0))))]) hx hb hC hw 1 9 rfl rfl (by decide) (by decide) (by decide) rfl rfl dX1_init_43 (fun H locs hw => ?_)
  have hw : wS D A s.heap [(h7, .inr (2, [.ref a1, .int (iI 0), .int (iI 0)])), (a1, .inl (τ 3, 15, rfs (va_up (va_up (va_up (va_up (va_up (va_up (va_up (va_up (fun _ => none) 0 (some a3)) 1 (some a6)) 2 (some a9)) 3 (some a12)) 4 (some a15)) 5 (some a18)) 6 (some a21)) 7 (some a24)))), (a3, .inr (7, [.ref c0_4, .ref k0_4, .ref p0_4, .ref o0_4, .ref f0_4, .ref g0_4, .int (iI 0), .int (iI 0), .int (iI 0), .int (iI 0), .int (iI 0)])), (c0_4, .inl (τ 0, 6, .inl (ar (fun _ => 0)))), (k0_4, .inl (τ 0, 6, .inl (ar (fun _ => 0)))), (p0_4, .inl (τ 0, 8, .inl (ar (fun _ => 0)))), (o0_4, .inl (τ 0, 8, .inl (ar (fun _ => 0)))), (f0_4, .inl (τ 0, 8, .inl (ar (fun _ => 0)))), (g0_4, .inl (τ 0, 8, .inl (ar (fun _ => 0))))] H _ := hw.pick [0, 1, 2, 3, 4, 5, 6, 7, 8] (by decide) rfl
  refine r_iinc (v := 8) (lv' := [(1, .int (iI 8)), (0, .ref h7)]) hx hb dX1_init_44 hl (k := 0) rfl rfl (by decide) rfl (fun ls hl => ?_)
  refine lv_goto (tgt := 25) hx hb dX1_init_47 (by decide) ?_
  refine lv_iload_n hx hb dX1_init_25 rfl (lv_at hl 0 rfl) ?_
  refine r_bipush hx hb dX1_init_26 (by decide +kernel) ?_
  refine r_icmp_ge (tgt := 50) hx hb dX1_init_28 (by decide) (by decide) (by decide) (fun hbr26 => (by exfalso; omega)) (fun hbr26 => ?_)
  refine lv_aload_n hx hb dX1_init_31 rfl (lv_at hl 1 rfl) ?_
  refine gf_X1_11 hx hb hC hw 0 rfl rfl dX1_init_32 ?_
  refine lv_iload_n hx hb dX1_init_35 rfl (lv_at hl 0 rfl) ?_
  refine r_new (ci := 7) (fs := [.null, .null, .null, .null, .null, .null, .int (iI 0), .int (iI 0), .int (iI 0), .int (iI 0), .int (iI 0)]) hx hb hC hA hw iX6 tyX6 tyX6_ok rfl cl_X1_9 it_X6 in_X6 df_X6 (by decide) (by decide) rfl rfl dX1_init_36 (fun a27 H hw => ?_)
  have hw : wS D A s.heap [(h7, .inr (2, [.ref a1, .int (iI 0), .int (iI 0)])), (a1, .inl (τ 3, 15, rfs (va_up (va_up (va_up (va_up (va_up (va_up (va_up (va_up (fun _ => none) 0 (some a3)) 1 (some a6)) 2 (some a9)) 3 (some a12)) 4 (some a15)) 5 (some a18)) 6 (some a21)) 7 (some a24)))), (a3, .inr (7, [.ref c0_4, .ref k0_4, .ref p0_4, .ref o0_4, .ref f0_4, .ref g0_4, .int (iI 0), .int (iI 0), .int (iI 0), .int (iI 0), .int (iI 0)])), (c0_4, .inl (τ 0, 6, .inl (ar (fun _ => 0)))), (k0_4, .inl (τ 0, 6, .inl (ar (fun _ => 0)))), (p0_4, .inl (τ 0, 8, .inl (ar (fun _ => 0)))), (o0_4, .inl (τ 0, 8, .inl (ar (fun _ => 0)))), (f0_4, .inl (τ 0, 8, .inl (ar (fun _ => 0)))), (g0_4, .inl (τ 0, 8, .inl (ar (fun _ => 0)))), (a27, .inr (7, [.null, .null, .null, .null, .null, .null, .int (iI 0), .int (iI 0), .int (iI 0), .int (iI 0), .int (iI 0)]))] H _ := hw
  refine lv_dup hx hb dX1_init_39 rfl ?_
  refine g_cINv (wr := [(h7, .inr (2, [.ref a1, .int (iI 0), .int (iI 0)])), (a1, .inl (τ 3, 15, rfs (va_up (va_up (va_up (va_up (va_up (va_up (va_up (va_up (fun _ => none) 0 (some a3)) 1 (some a6)) 2 (some a9)) 3 (some a12)) 4 (some a15)) 5 (some a18)) 6 (some a21)) 7 (some a24)))), (a3, .inr (7, [.ref c0_4, .ref k0_4, .ref p0_4, .ref o0_4, .ref f0_4, .ref g0_4, .int (iI 0), .int (iI 0), .int (iI 0), .int (iI 0), .int (iI 0)])), (c0_4, .inl (τ 0, 6, .inl (ar (fun _ => 0)))), (k0_4, .inl (τ 0, 6, .inl (ar (fun _ => 0)))), (p0_4, .inl (τ 0, 8, .inl (ar (fun _ => 0)))), (o0_4, .inl (τ 0, 8, .inl (ar (fun _ => 0)))), (f0_4, .inl (τ 0, 8, .inl (ar (fun _ => 0)))), (g0_4, .inl (τ 0, 8, .inl (ar (fun _ => 0))))]) hx hb hml hC hA hw hl.1 (c_Scene_init l D τ _ a27 ) kX6_init ml_X1_24 [9] [0, 1, 2, 3, 4, 5, 6, 7, 8] rfl rfl (by decide) (by decide) (by decide) rfl rfl (Nat.le_of_ble_eq_true rfl) ⟨by decide, by decide⟩ ⟨by decide, by decide⟩ rfl rfl dX1_init_40 (fun w28 H locs hE28 hw => ?_)
  obtain ⟨c0_28, k0_28, p0_28, o0_28, f0_28, g0_28, hq28, rfl⟩ := hE28
  have hw : wS D A s.heap [(h7, .inr (2, [.ref a1, .int (iI 0), .int (iI 0)])), (a1, .inl (τ 3, 15, rfs (va_up (va_up (va_up (va_up (va_up (va_up (va_up (va_up (fun _ => none) 0 (some a3)) 1 (some a6)) 2 (some a9)) 3 (some a12)) 4 (some a15)) 5 (some a18)) 6 (some a21)) 7 (some a24)))), (a3, .inr (7, [.ref c0_4, .ref k0_4, .ref p0_4, .ref o0_4, .ref f0_4, .ref g0_4, .int (iI 0), .int (iI 0), .int (iI 0), .int (iI 0), .int (iI 0)])), (c0_4, .inl (τ 0, 6, .inl (ar (fun _ => 0)))), (k0_4, .inl (τ 0, 6, .inl (ar (fun _ => 0)))), (p0_4, .inl (τ 0, 8, .inl (ar (fun _ => 0)))), (o0_4, .inl (τ 0, 8, .inl (ar (fun _ => 0)))), (f0_4, .inl (τ 0, 8, .inl (ar (fun _ => 0)))), (g0_4, .inl (τ 0, 8, .inl (ar (fun _ => 0)))), (a27, .inr (7, [.ref c0_28, .ref k0_28, .ref p0_28, .ref o0_28, .ref f0_28, .ref g0_28, .int (iI 0), .int (iI 0), .int (iI 0), .int (iI 0), .int (iI 0)])), (c0_28, .inl (τ 0, 6, .inl (ar (fun _ => 0)))), (k0_28, .inl (τ 0, 6, .inl (ar (fun _ => 0)))), (p0_28, .inl (τ 0, 8, .inl (ar (fun _ => 0)))), (o0_28, .inl (τ 0, 8, .inl (ar (fun _ => 0)))), (f0_28, .inl (τ 0, 8, .inl (ar (fun _ => 0)))), (g0_28, .inl (τ 0, 8, .inl (ar (fun _ => 0))))] H locs := hw
  refine r_aastS (f' := (va_up (va_up (va_up (va_up (va_up (va_up (va_up (va_up (va_up (fun _ => none) 0 (some a3)) 1 (some a6)) 2 (some a9)) 3 (some a12)) 4 (some a15)) 5 (some a18)) 6 (some a21)) 7 (some a24)) 8 (some a27))) (ws' := [(h7, .inr (2, [.ref a1, .int (iI 0), .int (iI 0)])), (a1, .inl (τ 3, 15, rfs (va_up (va_up (va_up (va_up (va_up (va_up (va_up (va_up (va_up (fun _ => none) 0 (some a3)) 1 (some a6)) 2 (some a9)) 3 (some a12)) 4 (some a15)) 5 (some a18)) 6 (some a21)) 7 (some a24)) 8 (some a27)))), (a3, .inr (7, [.ref c0_4, .ref k0_4, .ref p0_4, .ref o0_4, .ref f0_4, .ref g0_4, .int (iI 0), .int (iI 0), .int (iI 0), .int (iI 0), .int (iI 0)])), (c0_4, .inl (τ 0, 6, .inl (ar (fun _ => 0)))), (k0_4, .inl (τ 0, 6, .inl (ar (fun _ => 0)))), (p0_4, .inl (τ 0, 8, .inl (ar (fun _ => 0)))), (o0_4, .inl (τ 0, 8, .inl (ar (fun _ => 0)))), (f0_4, .inl (τ 0, 8, .inl (ar (fun _ => 0)))), (g0_4, .inl (τ 0, 8, .inl (ar (fun _ => 0)))), (a27, .inr (7, [.ref c0_28, .ref k0_28, .ref p0_28, .ref o0_28, .ref f0_28, .ref g0_28, .int (iI 0), .int (iI 0), .int (iI 0), .int (iI 0), .int (iI 0)])), (c0_28, .inl (τ 0, 6, .inl (ar (fun _ => 0)))), (k0_28, .inl (τ 0, 6, .inl (ar (fun _ => 0)))), (p0_28, .inl (τ 0, 8, .inl (ar (fun _ => 0)))), (o0_28, .inl (τ 0, 8, .inl (ar (fun _ => 0)))), (f0_28, .inl (τ 0, 8, .inl (ar (fun _ => 0)))), (g0_28, .inl (τ 0, 8, .inl (ar (fun _ => 0))))]) hx hb hC hw 1 9 rfl rfl (by decide) (by decide) (by decide) rfl rfl dX1_init_43 (fun H locs hw => ?_)
  have hw : wS D A s.heap [(h7, .inr (2, [.ref a1, .int (iI 0), .int (iI 0)])), (a1, .inl (τ 3, 15, rfs (va_up (va_up (va_up (va_up (va_up (va_up (va_up (va_up (va_up (fun _ => none) 0 (some a3)) 1 (some a6)) 2 (some a9)) 3 (some a12)) 4 (some a15)) 5 (some a18)) 6 (some a21)) 7 (some a24)) 8 (some a27)))), (a3, .inr (7, [.ref c0_4, .ref k0_4, .ref p0_4, .ref o0_4, .ref f0_4, .ref g0_4, .int (iI 0), .int (iI 0), .int (iI 0), .int (iI 0), .int (iI 0)])), (c0_4, .inl (τ 0, 6, .inl (ar (fun _ => 0)))), (k0_4, .inl (τ 0, 6, .inl (ar (fun _ => 0)))), (p0_4, .inl (τ 0, 8, .inl (ar (fun _ => 0)))), (o0_4, .inl (τ 0, 8, .inl (ar (fun _ => 0)))), (f0_4, .inl (τ 0, 8, .inl (ar (fun _ => 0)))), (g0_4, .inl (τ 0, 8, .inl (ar (fun _ => 0))))] H _ := hw.pick [0, 1, 2, 3, 4, 5, 6, 7, 8] (by decide) rfl
  refine r_iinc (v := 9) (lv' := [(1, .int (iI 9)), (0, .ref h7)]) hx hb dX1_init_44 hl (k := 0) rfl rfl (by decide) rfl (fun ls hl => ?_)
  refine lv_goto (tgt := 25) hx hb dX1_init_47 (by decide) ?_
  refine lv_iload_n hx hb dX1_init_25 rfl (lv_at hl 0 rfl) ?_
  refine r_bipush hx hb dX1_init_26 (by decide +kernel) ?_
  refine r_icmp_ge (tgt := 50) hx hb dX1_init_28 (by decide) (by decide) (by decide) (fun hbr29 => (by exfalso; omega)) (fun hbr29 => ?_)
  refine lv_aload_n hx hb dX1_init_31 rfl (lv_at hl 1 rfl) ?_
  refine gf_X1_11 hx hb hC hw 0 rfl rfl dX1_init_32 ?_
  refine lv_iload_n hx hb dX1_init_35 rfl (lv_at hl 0 rfl) ?_
  refine r_new (ci := 7) (fs := [.null, .null, .null, .null, .null, .null, .int (iI 0), .int (iI 0), .int (iI 0), .int (iI 0), .int (iI 0)]) hx hb hC hA hw iX6 tyX6 tyX6_ok rfl cl_X1_9 it_X6 in_X6 df_X6 (by decide) (by decide) rfl rfl dX1_init_36 (fun a30 H hw => ?_)
  have hw : wS D A s.heap [(h7, .inr (2, [.ref a1, .int (iI 0), .int (iI 0)])), (a1, .inl (τ 3, 15, rfs (va_up (va_up (va_up (va_up (va_up (va_up (va_up (va_up (va_up (fun _ => none) 0 (some a3)) 1 (some a6)) 2 (some a9)) 3 (some a12)) 4 (some a15)) 5 (some a18)) 6 (some a21)) 7 (some a24)) 8 (some a27)))), (a3, .inr (7, [.ref c0_4, .ref k0_4, .ref p0_4, .ref o0_4, .ref f0_4, .ref g0_4, .int (iI 0), .int (iI 0), .int (iI 0), .int (iI 0), .int (iI 0)])), (c0_4, .inl (τ 0, 6, .inl (ar (fun _ => 0)))), (k0_4, .inl (τ 0, 6, .inl (ar (fun _ => 0)))), (p0_4, .inl (τ 0, 8, .inl (ar (fun _ => 0)))), (o0_4, .inl (τ 0, 8, .inl (ar (fun _ => 0)))), (f0_4, .inl (τ 0, 8, .inl (ar (fun _ => 0)))), (g0_4, .inl (τ 0, 8, .inl (ar (fun _ => 0)))), (a30, .inr (7, [.null, .null, .null, .null, .null, .null, .int (iI 0), .int (iI 0), .int (iI 0), .int (iI 0), .int (iI 0)]))] H _ := hw
  refine lv_dup hx hb dX1_init_39 rfl ?_
  refine g_cINv (wr := [(h7, .inr (2, [.ref a1, .int (iI 0), .int (iI 0)])), (a1, .inl (τ 3, 15, rfs (va_up (va_up (va_up (va_up (va_up (va_up (va_up (va_up (va_up (fun _ => none) 0 (some a3)) 1 (some a6)) 2 (some a9)) 3 (some a12)) 4 (some a15)) 5 (some a18)) 6 (some a21)) 7 (some a24)) 8 (some a27)))), (a3, .inr (7, [.ref c0_4, .ref k0_4, .ref p0_4, .ref o0_4, .ref f0_4, .ref g0_4, .int (iI 0), .int (iI 0), .int (iI 0), .int (iI 0), .int (iI 0)])), (c0_4, .inl (τ 0, 6, .inl (ar (fun _ => 0)))), (k0_4, .inl (τ 0, 6, .inl (ar (fun _ => 0)))), (p0_4, .inl (τ 0, 8, .inl (ar (fun _ => 0)))), (o0_4, .inl (τ 0, 8, .inl (ar (fun _ => 0)))), (f0_4, .inl (τ 0, 8, .inl (ar (fun _ => 0)))), (g0_4, .inl (τ 0, 8, .inl (ar (fun _ => 0))))]) hx hb hml hC hA hw hl.1 (c_Scene_init l D τ _ a30 ) kX6_init ml_X1_24 [9] [0, 1, 2, 3, 4, 5, 6, 7, 8] rfl rfl (by decide) (by decide) (by decide) rfl rfl (Nat.le_of_ble_eq_true rfl) ⟨by decide, by decide⟩ ⟨by decide, by decide⟩ rfl rfl dX1_init_40 (fun w31 H locs hE31 hw => ?_)
  obtain ⟨c0_31, k0_31, p0_31, o0_31, f0_31, g0_31, hq31, rfl⟩ := hE31
  have hw : wS D A s.heap [(h7, .inr (2, [.ref a1, .int (iI 0), .int (iI 0)])), (a1, .inl (τ 3, 15, rfs (va_up (va_up (va_up (va_up (va_up (va_up (va_up (va_up (va_up (fun _ => none) 0 (some a3)) 1 (some a6)) 2 (some a9)) 3 (some a12)) 4 (some a15)) 5 (some a18)) 6 (some a21)) 7 (some a24)) 8 (some a27)))), (a3, .inr (7, [.ref c0_4, .ref k0_4, .ref p0_4, .ref o0_4, .ref f0_4, .ref g0_4, .int (iI 0), .int (iI 0), .int (iI 0), .int (iI 0), .int (iI 0)])), (c0_4, .inl (τ 0, 6, .inl (ar (fun _ => 0)))), (k0_4, .inl (τ 0, 6, .inl (ar (fun _ => 0)))), (p0_4, .inl (τ 0, 8, .inl (ar (fun _ => 0)))), (o0_4, .inl (τ 0, 8, .inl (ar (fun _ => 0)))), (f0_4, .inl (τ 0, 8, .inl (ar (fun _ => 0)))), (g0_4, .inl (τ 0, 8, .inl (ar (fun _ => 0)))), (a30, .inr (7, [.ref c0_31, .ref k0_31, .ref p0_31, .ref o0_31, .ref f0_31, .ref g0_31, .int (iI 0), .int (iI 0), .int (iI 0), .int (iI 0), .int (iI 0)])), (c0_31, .inl (τ 0, 6, .inl (ar (fun _ => 0)))), (k0_31, .inl (τ 0, 6, .inl (ar (fun _ => 0)))), (p0_31, .inl (τ 0, 8, .inl (ar (fun _ => 0)))), (o0_31, .inl (τ 0, 8, .inl (ar (fun _ => 0)))), (f0_31, .inl (τ 0, 8, .inl (ar (fun _ => 0)))), (g0_31, .inl (τ 0, 8, .inl (ar (fun _ => 0))))] H locs := hw
  refine r_aastS (f' := (va_up (va_up (va_up (va_up (va_up (va_up (va_up (va_up (va_up (va_up (fun _ => none) 0 (some a3)) 1 (some a6)) 2 (some a9)) 3 (some a12)) 4 (some a15)) 5 (some a18)) 6 (some a21)) 7 (some a24)) 8 (some a27)) 9 (some a30))) (ws' := [(h7, .inr (2, [.ref a1, .int (iI 0), .int (iI 0)])), (a1, .inl (τ 3, 15, rfs (va_up (va_up (va_up (va_up (va_up (va_up (va_up (va_up (va_up (va_up (fun _ => none) 0 (some a3)) 1 (some a6)) 2 (some a9)) 3 (some a12)) 4 (some a15)) 5 (some a18)) 6 (some a21)) 7 (some a24)) 8 (some a27)) 9 (some a30)))), (a3, .inr (7, [.ref c0_4, .ref k0_4, .ref p0_4, .ref o0_4, .ref f0_4, .ref g0_4, .int (iI 0), .int (iI 0), .int (iI 0), .int (iI 0), .int (iI 0)])), (c0_4, .inl (τ 0, 6, .inl (ar (fun _ => 0)))), (k0_4, .inl (τ 0, 6, .inl (ar (fun _ => 0)))), (p0_4, .inl (τ 0, 8, .inl (ar (fun _ => 0)))), (o0_4, .inl (τ 0, 8, .inl (ar (fun _ => 0)))), (f0_4, .inl (τ 0, 8, .inl (ar (fun _ => 0)))), (g0_4, .inl (τ 0, 8, .inl (ar (fun _ => 0)))), (a30, .inr (7, [.ref c0_31, .ref k0_31, .ref p0_31, .ref o0_31, .ref f0_31, .ref g0_31, .int (iI 0), .int (iI 0), .int (iI 0), .int (iI 0), .int (iI 0)])), (c0_31, .inl (τ 0, 6, .inl (ar (fun _ => 0)))), (k0_31, .inl (τ 0, 6, .inl (ar (fun _ => 0)))), (p0_31, .inl (τ 0, 8, .inl (ar (fun _ => 0)))), (o0_31, .inl (τ 0, 8, .inl (ar (fun _ => 0)))), (f0_31, .inl (τ 0, 8, .inl (ar (fun _ => 0)))), (g0_31, .inl (τ 0, 8, .inl (ar (fun _ => 0))))]) hx hb hC hw 1 9 rfl rfl (by decide) (by decide) (by decide) rfl rfl dX1_init_43 (fun H locs hw => ?_)
  have hw : wS D A s.heap [(h7, .inr (2, [.ref a1, .int (iI 0), .int (iI 0)])), (a1, .inl (τ 3, 15, rfs (va_up (va_up (va_up (va_up (va_up (va_up (va_up (va_up (va_up (va_up (fun _ => none) 0 (some a3)) 1 (some a6)) 2 (some a9)) 3 (some a12)) 4 (some a15)) 5 (some a18)) 6 (some a21)) 7 (some a24)) 8 (some a27)) 9 (some a30)))), (a3, .inr (7, [.ref c0_4, .ref k0_4, .ref p0_4, .ref o0_4, .ref f0_4, .ref g0_4, .int (iI 0), .int (iI 0), .int (iI 0), .int (iI 0), .int (iI 0)])), (c0_4, .inl (τ 0, 6, .inl (ar (fun _ => 0)))), (k0_4, .inl (τ 0, 6, .inl (ar (fun _ => 0)))), (p0_4, .inl (τ 0, 8, .inl (ar (fun _ => 0)))), (o0_4, .inl (τ 0, 8, .inl (ar (fun _ => 0)))), (f0_4, .inl (τ 0, 8, .inl (ar (fun _ => 0)))), (g0_4, .inl (τ 0, 8, .inl (ar (fun _ => 0))))] H _ := hw.pick [0, 1, 2, 3, 4, 5, 6, 7, 8] (by decide) rfl
  refine r_iinc (v := 10) (lv' := [(1, .int (iI 10)), (0, .ref h7)]) hx hb dX1_init_44 hl (k := 0) rfl rfl (by decide) rfl (fun ls hl => ?_)
  refine lv_goto (tgt := 25) hx hb dX1_init_47 (by decide) ?_
  refine lv_iload_n hx hb dX1_init_25 rfl (lv_at hl 0 rfl) ?_
  refine r_bipush hx hb dX1_init_26 (by decide +kernel) ?_
  refine r_icmp_ge (tgt := 50) hx hb dX1_init_28 (by decide) (by decide) (by decide) (fun hbr32 => (by exfalso; omega)) (fun hbr32 => ?_)
  refine lv_aload_n hx hb dX1_init_31 rfl (lv_at hl 1 rfl) ?_
  refine gf_X1_11 hx hb hC hw 0 rfl rfl dX1_init_32 ?_
  refine lv_iload_n hx hb dX1_init_35 rfl (lv_at hl 0 rfl) ?_
  refine r_new (ci := 7) (fs := [.null, .null, .null, .null, .null, .null, .int (iI 0), .int (iI 0), .int (iI 0), .int (iI 0), .int (iI 0)]) hx hb hC hA hw iX6 tyX6 tyX6_ok rfl cl_X1_9 it_X6 in_X6 df_X6 (by decide) (by decide) rfl rfl dX1_init_36 (fun a33 H hw => ?_)
  have hw : wS D A s.heap [(h7, .inr (2, [.ref a1, .int (iI 0), .int (iI 0)])), (a1, .inl (τ 3, 15, rfs (va_up (va_up (va_up (va_up (va_up (va_up (va_up (va_up (va_up (va_up (fun _ => none) 0 (some a3)) 1 (some a6)) 2 (some a9)) 3 (some a12)) 4 (some a15)) 5 (some a18)) 6 (some a21)) 7 (some a24)) 8 (some a27)) 9 (some a30)))), (a3, .inr (7, [.ref c0_4, .ref k0_4, .ref p0_4, .ref o0_4, .ref f0_4, .ref g0_4, .int (iI 0), .int (iI 0), .int (iI 0), .int (iI 0), .int (iI 0)])), (c0_4, .inl (τ 0, 6, .inl (ar (fun _ => 0)))), (k0_4, .inl (τ 0, 6, .inl (ar (fun _ => 0)))), (p0_4, .inl (τ 0, 8, .inl (ar (fun _ => 0)))), (o0_4, .inl (τ 0, 8, .inl (ar (fun _ => 0)))), (f0_4, .inl (τ 0, 8, .inl (ar (fun _ => 0)))), (g0_4, .inl (τ 0, 8, .inl (ar (fun _ => 0)))), (a33, .inr (7, [.null, .null, .null, .null, .null, .null, .int (iI 0), .int (iI 0), .int (iI 0), .int (iI 0), .int (iI 0)]))] H _ := hw
  refine lv_dup hx hb dX1_init_39 rfl ?_
  refine g_cINv (wr := [(h7, .inr (2, [.ref a1, .int (iI 0), .int (iI 0)])), (a1, .inl (τ 3, 15, rfs (va_up (va_up (va_up (va_up (va_up (va_up (va_up (va_up (va_up (va_up (fun _ => none) 0 (some a3)) 1 (some a6)) 2 (some a9)) 3 (some a12)) 4 (some a15)) 5 (some a18)) 6 (some a21)) 7 (some a24)) 8 (some a27)) 9 (some a30)))), (a3, .inr (7, [.ref c0_4, .ref k0_4, .ref p0_4, .ref o0_4, .ref f0_4, .ref g0_4, .int (iI 0), .int (iI 0), .int (iI 0), .int (iI 0), .int (iI 0)])), (c0_4, .inl (τ 0, 6, .inl (ar (fun _ => 0)))), (k0_4, .inl (τ 0, 6, .inl (ar (fun _ => 0)))), (p0_4, .inl (τ 0, 8, .inl (ar (fun _ => 0)))), (o0_4, .inl (τ 0, 8, .inl (ar (fun _ => 0)))), (f0_4, .inl (τ 0, 8, .inl (ar (fun _ => 0)))), (g0_4, .inl (τ 0, 8, .inl (ar (fun _ => 0))))]) hx hb hml hC hA hw hl.1 (c_Scene_init l D τ _ a33 ) kX6_init ml_X1_24 [9] [0, 1, 2, 3, 4, 5, 6, 7, 8] rfl rfl (by decide) (by decide) (by decide) rfl rfl (Nat.le_of_ble_eq_true rfl) ⟨by decide, by decide⟩ ⟨by decide, by decide⟩ rfl rfl dX1_init_40 (fun w34 H locs hE34 hw => ?_)
  obtain ⟨c0_34, k0_34, p0_34, o0_34, f0_34, g0_34, hq34, rfl⟩ := hE34
  have hw : wS D A s.heap [(h7, .inr (2, [.ref a1, .int (iI 0), .int (iI 0)])), (a1, .inl (τ 3, 15, rfs (va_up (va_up (va_up (va_up (va_up (va_up (va_up (va_up (va_up (va_up (fun _ => none) 0 (some a3)) 1 (some a6)) 2 (some a9)) 3 (some a12)) 4 (some a15)) 5 (some a18)) 6 (some a21)) 7 (some a24)) 8 (some a27)) 9 (some a30)))), (a3, .inr (7, [.ref c0_4, .ref k0_4, .ref p0_4, .ref o0_4, .ref f0_4, .ref g0_4, .int (iI 0), .int (iI 0), .int (iI 0), .int (iI 0), .int (iI 0)])), (c0_4, .inl (τ 0, 6, .inl (ar (fun _ => 0)))), (k0_4, .inl (τ 0, 6, .inl (ar (fun _ => 0)))), (p0_4, .inl (τ 0, 8, .inl (ar (fun _ => 0)))), (o0_4, .inl (τ 0, 8, .inl (ar (fun _ => 0)))), (f0_4, .inl (τ 0, 8, .inl (ar (fun _ => 0)))), (g0_4, .inl (τ 0, 8, .inl (ar (fun _ => 0)))), (a33, .inr (7, [.ref c0_34, .ref k0_34, .ref p0_34, .ref o0_34, .ref f0_34, .ref g0_34, .int (iI 0), .int (iI 0), .int (iI 0), .int (iI 0), .int (iI 0)])), (c0_34, .inl (τ 0, 6, .inl (ar (fun _ => 0)))), (k0_34, .inl (τ 0, 6, .inl (ar (fun _ => 0)))), (p0_34, .inl (τ 0, 8, .inl (ar (fun _ => 0)))), (o0_34, .inl (τ 0, 8, .inl (ar (fun _ => 0)))), (f0_34, .inl (τ 0, 8, .inl (ar (fun _ => 0)))), (g0_34, .inl (τ 0, 8, .inl (ar (fun _ => 0))))] H locs := hw
  refine r_aastS (f' := (va_up (va_up (va_up (va_up (va_up (va_up (va_up (va_up (va_up (va_up (va_up (fun _ => none) 0 (some a3)) 1 (some a6)) 2 (some a9)) 3 (some a12)) 4 (some a15)) 5 (some a18)) 6 (some a21)) 7 (some a24)) 8 (some a27)) 9 (some a30)) 10 (some a33))) (ws' := [(h7, .inr (2, [.ref a1, .int (iI 0), .int (iI 0)])), (a1, .inl (τ 3, 15, rfs (va_up (va_up (va_up (va_up (va_up (va_up (va_up (va_up (va_up (va_up (va_up (fun _ => none) 0 (some a3)) 1 (some a6)) 2 (some a9)) 3 (some a12)) 4 (some a15)) 5 (some a18)) 6 (some a21)) 7 (some a24)) 8 (some a27)) 9 (some a30)) 10 (some a33)))), (a3, .inr (7, [.ref c0_4, .ref k0_4, .ref p0_4, .ref o0_4, .ref f0_4, .ref g0_4, .int (iI 0), .int (iI 0), .int (iI 0), .int (iI 0), .int (iI 0)])), (c0_4, .inl (τ 0, 6, .inl (ar (fun _ => 0)))), (k0_4, .inl (τ 0, 6, .inl (ar (fun _ => 0)))), (p0_4, .inl (τ 0, 8, .inl (ar (fun _ => 0)))), (o0_4, .inl (τ 0, 8, .inl (ar (fun _ => 0)))), (f0_4, .inl (τ 0, 8, .inl (ar (fun _ => 0)))), (g0_4, .inl (τ 0, 8, .inl (ar (fun _ => 0)))), (a33, .inr (7, [.ref c0_34, .ref k0_34, .ref p0_34, .ref o0_34, .ref f0_34, .ref g0_34, .int (iI 0), .int (iI 0), .int (iI 0), .int (iI 0), .int (iI 0)])), (c0_34, .inl (τ 0, 6, .inl (ar (fun _ => 0)))), (k0_34, .inl (τ 0, 6, .inl (ar (fun _ => 0)))), (p0_34, .inl (τ 0, 8, .inl (ar (fun _ => 0)))), (o0_34, .inl (τ 0, 8, .inl (ar (fun _ => 0)))), (f0_34, .inl (τ 0, 8, .inl (ar (fun _ => 0)))), (g0_34, .inl (τ 0, 8, .inl (ar (fun _ => 0))))]) hx hb hC hw 1 9 rfl rfl (by decide) (by decide) (by decide) rfl rfl dX1_init_43 (fun H locs hw => ?_)
  have hw : wS D A s.heap [(h7, .inr (2, [.ref a1, .int (iI 0), .int (iI 0)])), (a1, .inl (τ 3, 15, rfs (va_up (va_up (va_up (va_up (va_up (va_up (va_up (va_up (va_up (va_up (va_up (fun _ => none) 0 (some a3)) 1 (some a6)) 2 (some a9)) 3 (some a12)) 4 (some a15)) 5 (some a18)) 6 (some a21)) 7 (some a24)) 8 (some a27)) 9 (some a30)) 10 (some a33)))), (a3, .inr (7, [.ref c0_4, .ref k0_4, .ref p0_4, .ref o0_4, .ref f0_4, .ref g0_4, .int (iI 0), .int (iI 0), .int (iI 0), .int (iI 0), .int (iI 0)])), (c0_4, .inl (τ 0, 6, .inl (ar (fun _ => 0)))), (k0_4, .inl (τ 0, 6, .inl (ar (fun _ => 0)))), (p0_4, .inl (τ 0, 8, .inl (ar (fun _ => 0)))), (o0_4, .inl (τ 0, 8, .inl (ar (fun _ => 0)))), (f0_4, .inl (τ 0, 8, .inl (ar (fun _ => 0)))), (g0_4, .inl (τ 0, 8, .inl (ar (fun _ => 0))))] H _ := hw.pick [0, 1, 2, 3, 4, 5, 6, 7, 8] (by decide) rfl
  refine r_iinc (v := 11) (lv' := [(1, .int (iI 11)), (0, .ref h7)]) hx hb dX1_init_44 hl (k := 0) rfl rfl (by decide) rfl (fun ls hl => ?_)
  refine lv_goto (tgt := 25) hx hb dX1_init_47 (by decide) ?_
  refine lv_iload_n hx hb dX1_init_25 rfl (lv_at hl 0 rfl) ?_
  refine r_bipush hx hb dX1_init_26 (by decide +kernel) ?_
  refine r_icmp_ge (tgt := 50) hx hb dX1_init_28 (by decide) (by decide) (by decide) (fun hbr35 => (by exfalso; omega)) (fun hbr35 => ?_)
  refine lv_aload_n hx hb dX1_init_31 rfl (lv_at hl 1 rfl) ?_
  refine gf_X1_11 hx hb hC hw 0 rfl rfl dX1_init_32 ?_
  refine lv_iload_n hx hb dX1_init_35 rfl (lv_at hl 0 rfl) ?_
  refine r_new (ci := 7) (fs := [.null, .null, .null, .null, .null, .null, .int (iI 0), .int (iI 0), .int (iI 0), .int (iI 0), .int (iI 0)]) hx hb hC hA hw iX6 tyX6 tyX6_ok rfl cl_X1_9 it_X6 in_X6 df_X6 (by decide) (by decide) rfl rfl dX1_init_36 (fun a36 H hw => ?_)
  have hw : wS D A s.heap [(h7, .inr (2, [.ref a1, .int (iI 0), .int (iI 0)])), (a1, .inl (τ 3, 15, rfs (va_up (va_up (va_up (va_up (va_up (va_up (va_up (va_up (va_up (va_up (va_up (fun _ => none) 0 (some a3)) 1 (some a6)) 2 (some a9)) 3 (some a12)) 4 (some a15)) 5 (some a18)) 6 (some a21)) 7 (some a24)) 8 (some a27)) 9 (some a30)) 10 (some a33)))), (a3, .inr (7, [.ref c0_4, .ref k0_4, .ref p0_4, .ref o0_4, .ref f0_4, .ref g0_4, .int (iI 0), .int (iI 0), .int (iI 0), .int (iI 0), .int (iI 0)])), (c0_4, .inl (τ 0, 6, .inl (ar (fun _ => 0)))), (k0_4, .inl (τ 0, 6, .inl (ar (fun _ => 0)))), (p0_4, .inl (τ 0, 8, .inl (ar (fun _ => 0)))), (o0_4, .inl (τ 0, 8, .inl (ar (fun _ => 0)))), (f0_4, .inl (τ 0, 8, .inl (ar (fun _ => 0)))), (g0_4, .inl (τ 0, 8, .inl (ar (fun _ => 0)))), (a36, .inr (7, [.null, .null, .null, .null, .null, .null, .int (iI 0), .int (iI 0), .int (iI 0), .int (iI 0), .int (iI 0)]))] H _ := hw
  refine lv_dup hx hb dX1_init_39 rfl ?_
  refine g_cINv (wr := [(h7, .inr (2, [.ref a1, .int (iI 0), .int (iI 0)])), (a1, .inl (τ 3, 15, rfs (va_up (va_up (va_up (va_up (va_up (va_up (va_up (va_up (va_up (va_up (va_up (fun _ => none) 0 (some a3)) 1 (some a6)) 2 (some a9)) 3 (some a12)) 4 (some a15)) 5 (some a18)) 6 (some a21)) 7 (some a24)) 8 (some a27)) 9 (some a30)) 10 (some a33)))), (a3, .inr (7, [.ref c0_4, .ref k0_4, .ref p0_4, .ref o0_4, .ref f0_4, .ref g0_4, .int (iI 0), .int (iI 0), .int (iI 0), .int (iI 0), .int (iI 0)])), (c0_4, .inl (τ 0, 6, .inl (ar (fun _ => 0)))), (k0_4, .inl (τ 0, 6, .inl (ar (fun _ => 0)))), (p0_4, .inl (τ 0, 8, .inl (ar (fun _ => 0)))), (o0_4, .inl (τ 0, 8, .inl (ar (fun _ => 0)))), (f0_4, .inl (τ 0, 8, .inl (ar (fun _ => 0)))), (g0_4, .inl (τ 0, 8, .inl (ar (fun _ => 0))))]) hx hb hml hC hA hw hl.1 (c_Scene_init l D τ _ a36 ) kX6_init ml_X1_24 [9] [0, 1, 2, 3, 4, 5, 6, 7, 8] rfl rfl (by decide) (by decide) (by decide) rfl rfl (Nat.le_of_ble_eq_true rfl) ⟨by decide, by decide⟩ ⟨by decide, by decide⟩ rfl rfl dX1_init_40 (fun w37 H locs hE37 hw => ?_)
  obtain ⟨c0_37, k0_37, p0_37, o0_37, f0_37, g0_37, hq37, rfl⟩ := hE37
  have hw : wS D A s.heap [(h7, .inr (2, [.ref a1, .int (iI 0), .int (iI 0)])), (a1, .inl (τ 3, 15, rfs (va_up (va_up (va_up (va_up (va_up (va_up (va_up (va_up (va_up (va_up (va_up (fun _ => none) 0 (some a3)) 1 (some a6)) 2 (some a9)) 3 (some a12)) 4 (some a15)) 5 (some a18)) 6 (some a21)) 7 (some a24)) 8 (some a27)) 9 (some a30)) 10 (some a33)))), (a3, .inr (7, [.ref c0_4, .ref k0_4, .ref p0_4, .ref o0_4, .ref f0_4, .ref g0_4, .int (iI 0), .int (iI 0), .int (iI 0), .int (iI 0), .int (iI 0)])), (c0_4, .inl (τ 0, 6, .inl (ar (fun _ => 0)))), (k0_4, .inl (τ 0, 6, .inl (ar (fun _ => 0)))), (p0_4, .inl (τ 0, 8, .inl (ar (fun _ => 0)))), (o0_4, .inl (τ 0, 8, .inl (ar (fun _ => 0)))), (f0_4, .inl (τ 0, 8, .inl (ar (fun _ => 0)))), (g0_4, .inl (τ 0, 8, .inl (ar (fun _ => 0)))), (a36, .inr (7, [.ref c0_37, .ref k0_37, .ref p0_37, .ref o0_37, .ref f0_37, .ref g0_37, .int (iI 0), .int (iI 0), .int (iI 0), .int (iI 0), .int (iI 0)])), (c0_37, .inl (τ 0, 6, .inl (ar (fun _ => 0)))), (k0_37, .inl (τ 0, 6, .inl (ar (fun _ => 0)))), (p0_37, .inl (τ 0, 8, .inl (ar (fun _ => 0)))), (o0_37, .inl (τ 0, 8, .inl (ar (fun _ => 0)))), (f0_37, .inl (τ 0, 8, .inl (ar (fun _ => 0)))), (g0_37, .inl (τ 0, 8, .inl (ar (fun _ => 0))))] H locs := hw
  refine r_aastS (f' := (va_up (va_up (va_up (va_up (va_up (va_up (va_up (va_up (va_up (va_up (va_up (va_up (fun _ => none) 0 (some a3)) 1 (some a6)) 2 (some a9)) 3 (some a12)) 4 (some a15)) 5 (some a18)) 6 (some a21)) 7 (some a24)) 8 (some a27)) 9 (some a30)) 10 (some a33)) 11 (some a36))) (ws' := [(h7, .inr (2, [.ref a1, .int (iI 0), .int (iI 0)])), (a1, .inl (τ 3, 15, rfs (va_up (va_up (va_up (va_up (va_up (va_up (va_up (va_up (va_up (va_up (va_up (va_up (fun _ => none) 0 (some a3)) 1 (some a6)) 2 (some a9)) 3 (some a12)) 4 (some a15)) 5 (some a18)) 6 (some a21)) 7 (some a24)) 8 (some a27)) 9 (some a30)) 10 (some a33)) 11 (some a36)))), (a3, .inr (7, [.ref c0_4, .ref k0_4, .ref p0_4, .ref o0_4, .ref f0_4, .ref g0_4, .int (iI 0), .int (iI 0), .int (iI 0), .int (iI 0), .int (iI 0)])), (c0_4, .inl (τ 0, 6, .inl (ar (fun _ => 0)))), (k0_4, .inl (τ 0, 6, .inl (ar (fun _ => 0)))), (p0_4, .inl (τ 0, 8, .inl (ar (fun _ => 0)))), (o0_4, .inl (τ 0, 8, .inl (ar (fun _ => 0)))), (f0_4, .inl (τ 0, 8, .inl (ar (fun _ => 0)))), (g0_4, .inl (τ 0, 8, .inl (ar (fun _ => 0)))), (a36, .inr (7, [.ref c0_37, .ref k0_37, .ref p0_37, .ref o0_37, .ref f0_37, .ref g0_37, .int (iI 0), .int (iI 0), .int (iI 0), .int (iI 0), .int (iI 0)])), (c0_37, .inl (τ 0, 6, .inl (ar (fun _ => 0)))), (k0_37, .inl (τ 0, 6, .inl (ar (fun _ => 0)))), (p0_37, .inl (τ 0, 8, .inl (ar (fun _ => 0)))), (o0_37, .inl (τ 0, 8, .inl (ar (fun _ => 0)))), (f0_37, .inl (τ 0, 8, .inl (ar (fun _ => 0)))), (g0_37, .inl (τ 0, 8, .inl (ar (fun _ => 0))))]) hx hb hC hw 1 9 rfl rfl (by decide) (by decide) (by decide) rfl rfl dX1_init_43 (fun H locs hw => ?_)
  have hw : wS D A s.heap [(h7, .inr (2, [.ref a1, .int (iI 0), .int (iI 0)])), (a1, .inl (τ 3, 15, rfs (va_up (va_up (va_up (va_up (va_up (va_up (va_up (va_up (va_up (va_up (va_up (va_up (fun _ => none) 0 (some a3)) 1 (some a6)) 2 (some a9)) 3 (some a12)) 4 (some a15)) 5 (some a18)) 6 (some a21)) 7 (some a24)) 8 (some a27)) 9 (some a30)) 10 (some a33)) 11 (some a36)))), (a3, .inr (7, [.ref c0_4, .ref k0_4, .ref p0_4, .ref o0_4, .ref f0_4, .ref g0_4, .int (iI 0), .int (iI 0), .int (iI 0), .int (iI 0), .int (iI 0)])), (c0_4, .inl (τ 0, 6, .inl (ar (fun _ => 0)))), (k0_4, .inl (τ 0, 6, .inl (ar (fun _ => 0)))), (p0_4, .inl (τ 0, 8, .inl (ar (fun _ => 0)))), (o0_4, .inl (τ 0, 8, .inl (ar (fun _ => 0)))), (f0_4, .inl (τ 0, 8, .inl (ar (fun _ => 0)))), (g0_4, .inl (τ 0, 8, .inl (ar (fun _ => 0))))] H _ := hw.pick [0, 1, 2, 3, 4, 5, 6, 7, 8] (by decide) rfl
  refine r_iinc (v := 12) (lv' := [(1, .int (iI 12)), (0, .ref h7)]) hx hb dX1_init_44 hl (k := 0) rfl rfl (by decide) rfl (fun ls hl => ?_)
  refine lv_goto (tgt := 25) hx hb dX1_init_47 (by decide) ?_
  refine lv_iload_n hx hb dX1_init_25 rfl (lv_at hl 0 rfl) ?_
  refine r_bipush hx hb dX1_init_26 (by decide +kernel) ?_
  refine r_icmp_ge (tgt := 50) hx hb dX1_init_28 (by decide) (by decide) (by decide) (fun hbr38 => (by exfalso; omega)) (fun hbr38 => ?_)
  refine lv_aload_n hx hb dX1_init_31 rfl (lv_at hl 1 rfl) ?_
  refine gf_X1_11 hx hb hC hw 0 rfl rfl dX1_init_32 ?_
  refine lv_iload_n hx hb dX1_init_35 rfl (lv_at hl 0 rfl) ?_
  refine r_new (ci := 7) (fs := [.null, .null, .null, .null, .null, .null, .int (iI 0), .int (iI 0), .int (iI 0), .int (iI 0), .int (iI 0)]) hx hb hC hA hw iX6 tyX6 tyX6_ok rfl cl_X1_9 it_X6 in_X6 df_X6 (by decide) (by decide) rfl rfl dX1_init_36 (fun a39 H hw => ?_)
  have hw : wS D A s.heap [(h7, .inr (2, [.ref a1, .int (iI 0), .int (iI 0)])), (a1, .inl (τ 3, 15, rfs (va_up (va_up (va_up (va_up (va_up (va_up (va_up (va_up (va_up (va_up (va_up (va_up (fun _ => none) 0 (some a3)) 1 (some a6)) 2 (some a9)) 3 (some a12)) 4 (some a15)) 5 (some a18)) 6 (some a21)) 7 (some a24)) 8 (some a27)) 9 (some a30)) 10 (some a33)) 11 (some a36)))), (a3, .inr (7, [.ref c0_4, .ref k0_4, .ref p0_4, .ref o0_4, .ref f0_4, .ref g0_4, .int (iI 0), .int (iI 0), .int (iI 0), .int (iI 0), .int (iI 0)])), (c0_4, .inl (τ 0, 6, .inl (ar (fun _ => 0)))), (k0_4, .inl (τ 0, 6, .inl (ar (fun _ => 0)))), (p0_4, .inl (τ 0, 8, .inl (ar (fun _ => 0)))), (o0_4, .inl (τ 0, 8, .inl (ar (fun _ => 0)))), (f0_4, .inl (τ 0, 8, .inl (ar (fun _ => 0)))), (g0_4, .inl (τ 0, 8, .inl (ar (fun _ => 0)))), (a39, .inr (7, [.null, .null, .null, .null, .null, .null, .int (iI 0), .int (iI 0), .int (iI 0), .int (iI 0), .int (iI 0)]))] H _ := hw
  refine lv_dup hx hb dX1_init_39 rfl ?_
  refine g_cINv (wr := [(h7, .inr (2, [.ref a1, .int (iI 0), .int (iI 0)])), (a1, .inl (τ 3, 15, rfs (va_up (va_up (va_up (va_up (va_up (va_up (va_up (va_up (va_up (va_up (va_up (va_up (fun _ => none) 0 (some a3)) 1 (some a6)) 2 (some a9)) 3 (some a12)) 4 (some a15)) 5 (some a18)) 6 (some a21)) 7 (some a24)) 8 (some a27)) 9 (some a30)) 10 (some a33)) 11 (some a36)))), (a3, .inr (7, [.ref c0_4, .ref k0_4, .ref p0_4, .ref o0_4, .ref f0_4, .ref g0_4, .int (iI 0), .int (iI 0), .int (iI 0), .int (iI 0), .int (iI 0)])), (c0_4, .inl (τ 0, 6, .inl (ar (fun _ => 0)))), (k0_4, .inl (τ 0, 6, .inl (ar (fun _ => 0)))), (p0_4, .inl (τ 0, 8, .inl (ar (fun _ => 0)))), (o0_4, .inl (τ 0, 8, .inl (ar (fun _ => 0)))), (f0_4, .inl (τ 0, 8, .inl (ar (fun _ => 0)))), (g0_4, .inl (τ 0, 8, .inl (ar (fun _ => 0))))]) hx hb hml hC hA hw hl.1 (c_Scene_init l D τ _ a39 ) kX6_init ml_X1_24 [9] [0, 1, 2, 3, 4, 5, 6, 7, 8] rfl rfl (by decide) (by decide) (by decide) rfl rfl (Nat.le_of_ble_eq_true rfl) ⟨by decide, by decide⟩ ⟨by decide, by decide⟩ rfl rfl dX1_init_40 (fun w40 H locs hE40 hw => ?_)
  obtain ⟨c0_40, k0_40, p0_40, o0_40, f0_40, g0_40, hq40, rfl⟩ := hE40
  have hw : wS D A s.heap [(h7, .inr (2, [.ref a1, .int (iI 0), .int (iI 0)])), (a1, .inl (τ 3, 15, rfs (va_up (va_up (va_up (va_up (va_up (va_up (va_up (va_up (va_up (va_up (va_up (va_up (fun _ => none) 0 (some a3)) 1 (some a6)) 2 (some a9)) 3 (some a12)) 4 (some a15)) 5 (some a18)) 6 (some a21)) 7 (some a24)) 8 (some a27)) 9 (some a30)) 10 (some a33)) 11 (some a36)))), (a3, .inr (7, [.ref c0_4, .ref k0_4, .ref p0_4, .ref o0_4, .ref f0_4, .ref g0_4, .int (iI 0), .int (iI 0), .int (iI 0), .int (iI 0), .int (iI 0)])), (c0_4, .inl (τ 0, 6, .inl (ar (fun _ => 0)))), (k0_4, .inl (τ 0, 6, .inl (ar (fun _ => 0)))), (p0_4, .inl (τ 0, 8, .inl (ar (fun _ => 0)))), (o0_4, .inl (τ 0, 8, .inl (ar (fun _ => 0)))), (f0_4, .inl (τ 0, 8, .inl (ar (fun _ => 0)))), (g0_4, .inl (τ 0, 8, .inl (ar (fun _ => 0)))), (a39, .inr (7, [.ref c0_40, .ref k0_40, .ref p0_40, .ref o0_40, .ref f0_40, .ref g0_40, .int (iI 0), .int (iI 0), .int (iI 0), .int (iI 0), .int (iI 0)])), (c0_40, .inl (τ 0, 6, .inl (ar (fun _ => 0)))), (k0_40, .inl (τ 0, 6, .inl (ar (fun _ => 0)))), (p0_40, .inl (τ 0, 8, .inl (ar (fun _ => 0)))), (o0_40, .inl (τ 0, 8, .inl (ar (fun _ => 0)))), (f0_40, .inl (τ 0, 8, .inl (ar (fun _ => 0)))), (g0_40, .inl (τ 0, 8, .inl (ar (fun _ => 0))))] H locs := hw
  refine r_aastS (f' := (va_up (va_up (va_up (va_up (va_up (va_up (va_up (va_up (va_up (va_up (va_up (va_up (va_up (fun _ => none) 0 (some a3)) 1 (some a6)) 2 (some a9)) 3 (some a12)) 4 (some a15)) 5 (some a18)) 6 (some a21)) 7 (some a24)) 8 (some a27)) 9 (some a30)) 10 (some a33)) 11 (some a36)) 12 (some a39))) (ws' := [(h7, .inr (2, [.ref a1, .int (iI 0), .int (iI 0)])), (a1, .inl (τ 3, 15, rfs (va_up (va_up (va_up (va_up (va_up (va_up (va_up (va_up (va_up (va_up (va_up (va_up (va_up (fun _ => none) 0 (some a3)) 1 (some a6)) 2 (some a9)) 3 (some a12)) 4 (some a15)) 5 (some a18)) 6 (some a21)) 7 (some a24)) 8 (some a27)) 9 (some a30)) 10 (some a33)) 11 (some a36)) 12 (some a39)))), (a3, .inr (7, [.ref c0_4, .ref k0_4, .ref p0_4, .ref o0_4, .ref f0_4, .ref g0_4, .int (iI 0), .int (iI 0), .int (iI 0), .int (iI 0), .int (iI 0)])), (c0_4, .inl (τ 0, 6, .inl (ar (fun _ => 0)))), (k0_4, .inl (τ 0, 6, .inl (ar (fun _ => 0)))), (p0_4, .inl (τ 0, 8, .inl (ar (fun _ => 0)))), (o0_4, .inl (τ 0, 8, .inl (ar (fun _ => 0)))), (f0_4, .inl (τ 0, 8, .inl (ar (fun _ => 0)))), (g0_4, .inl (τ 0, 8, .inl (ar (fun _ => 0)))), (a39, .inr (7, [.ref c0_40, .ref k0_40, .ref p0_40, .ref o0_40, .ref f0_40, .ref g0_40, .int (iI 0), .int (iI 0), .int (iI 0), .int (iI 0), .int (iI 0)])), (c0_40, .inl (τ 0, 6, .inl (ar (fun _ => 0)))), (k0_40, .inl (τ 0, 6, .inl (ar (fun _ => 0)))), (p0_40, .inl (τ 0, 8, .inl (ar (fun _ => 0)))), (o0_40, .inl (τ 0, 8, .inl (ar (fun _ => 0)))), (f0_40, .inl (τ 0, 8, .inl (ar (fun _ => 0)))), (g0_40, .inl (τ 0, 8, .inl (ar (fun _ => 0))))]) hx hb hC hw 1 9 rfl rfl (by decide) (by decide) (by decide) rfl rfl dX1_init_43 (fun H locs hw => ?_)
  have hw : wS D A s.heap [(h7, .inr (2, [.ref a1, .int (iI 0), .int (iI 0)])), (a1, .inl (τ 3, 15, rfs (va_up (va_up (va_up (va_up (va_up (va_up (va_up (va_up (va_up (va_up (va_up (va_up (va_up (fun _ => none) 0 (some a3)) 1 (some a6)) 2 (some a9)) 3 (some a12)) 4 (some a15)) 5 (some a18)) 6 (some a21)) 7 (some a24)) 8 (some a27)) 9 (some a30)) 10 (some a33)) 11 (some a36)) 12 (some a39)))), (a3, .inr (7, [.ref c0_4, .ref k0_4, .ref p0_4, .ref o0_4, .ref f0_4, .ref g0_4, .int (iI 0), .int (iI 0), .int (iI 0), .int (iI 0), .int (iI 0)])), (c0_4, .inl (τ 0, 6, .inl (ar (fun _ => 0)))), (k0_4, .inl (τ 0, 6, .inl (ar (fun _ => 0)))), (p0_4, .inl (τ 0, 8, .inl (ar (fun _ => 0)))), (o0_4, .inl (τ 0, 8, .inl (ar (fun _ => 0)))), (f0_4, .inl (τ 0, 8, .inl (ar (fun _ => 0)))), (g0_4, .inl (τ 0, 8, .inl (ar (fun _ => 0))))] H _ := hw.pick [0, 1, 2, 3, 4, 5, 6, 7, 8] (by decide) rfl
  refine r_iinc (v := 13) (lv' := [(1, .int (iI 13)), (0, .ref h7)]) hx hb dX1_init_44 hl (k := 0) rfl rfl (by decide) rfl (fun ls hl => ?_)
  refine lv_goto (tgt := 25) hx hb dX1_init_47 (by decide) ?_
  refine lv_iload_n hx hb dX1_init_25 rfl (lv_at hl 0 rfl) ?_
  refine r_bipush hx hb dX1_init_26 (by decide +kernel) ?_
  refine r_icmp_ge (tgt := 50) hx hb dX1_init_28 (by decide) (by decide) (by decide) (fun hbr41 => (by exfalso; omega)) (fun hbr41 => ?_)
  refine lv_aload_n hx hb dX1_init_31 rfl (lv_at hl 1 rfl) ?_
  refine gf_X1_11 hx hb hC hw 0 rfl rfl dX1_init_32 ?_
  refine lv_iload_n hx hb dX1_init_35 rfl (lv_at hl 0 rfl) ?_
  refine r_new (ci := 7) (fs := [.null, .null, .null, .null, .null, .null, .int (iI 0), .int (iI 0), .int (iI 0), .int (iI 0), .int (iI 0)]) hx hb hC hA hw iX6 tyX6 tyX6_ok rfl cl_X1_9 it_X6 in_X6 df_X6 (by decide) (by decide) rfl rfl dX1_init_36 (fun a42 H hw => ?_)
  have hw : wS D A s.heap [(h7, .inr (2, [.ref a1, .int (iI 0), .int (iI 0)])), (a1, .inl (τ 3, 15, rfs (va_up (va_up (va_up (va_up (va_up (va_up (va_up (va_up (va_up (va_up (va_up (va_up (va_up (fun _ => none) 0 (some a3)) 1 (some a6)) 2 (some a9)) 3 (some a12)) 4 (some a15)) 5 (some a18)) 6 (some a21)) 7 (some a24)) 8 (some a27)) 9 (some a30)) 10 (some a33)) 11 (some a36)) 12 (some a39)))), (a3, .inr (7, [.ref c0_4, .ref k0_4, .ref p0_4, .ref o0_4, .ref f0_4, .ref g0_4, .int (iI 0), .int (iI 0), .int (iI 0), .int (iI 0), .int (iI 0)])), (c0_4, .inl (τ 0, 6, .inl (ar (fun _ => 0)))), (k0_4, .inl (τ 0, 6, .inl (ar (fun _ => 0)))), (p0_4, .inl (τ 0, 8, .inl (ar (fun _ => 0)))), (o0_4, .inl (τ 0, 8, .inl (ar (fun _ => 0)))), (f0_4, .inl (τ 0, 8, .inl (ar (fun _ => 0)))), (g0_4, .inl (τ 0, 8, .inl (ar (fun _ => 0)))), (a42, .inr (7, [.null, .null, .null, .null, .null, .null, .int (iI 0), .int (iI 0), .int (iI 0), .int (iI 0), .int (iI 0)]))] H _ := hw
  refine lv_dup hx hb dX1_init_39 rfl ?_
  refine g_cINv (wr := [(h7, .inr (2, [.ref a1, .int (iI 0), .int (iI 0)])), (a1, .inl (τ 3, 15, rfs (va_up (va_up (va_up (va_up (va_up (va_up (va_up (va_up (va_up (va_up (va_up (va_up (va_up (fun _ => none) 0 (some a3)) 1 (some a6)) 2 (some a9)) 3 (some a12)) 4 (some a15)) 5 (some a18)) 6 (some a21)) 7 (some a24)) 8 (some a27)) 9 (some a30)) 10 (some a33)) 11 (some a36)) 12 (some a39)))), (a3, .inr (7, [.ref c0_4, .ref k0_4, .ref p0_4, .ref o0_4, .ref f0_4, .ref g0_4, .int (iI 0), .int (iI 0), .int (iI 0), .int (iI 0), .int (iI 0)])), (c0_4, .inl (τ 0, 6, .inl (ar (fun _ => 0)))), (k0_4, .inl (τ 0, 6, .inl (ar (fun _ => 0)))), (p0_4, .inl (τ 0, 8, .inl (ar (fun _ => 0)))), (o0_4, .inl (τ 0, 8, .inl (ar (fun _ => 0)))), (f0_4, .inl (τ 0, 8, .inl (ar (fun _ => 0)))), (g0_4, .inl (τ 0, 8, .inl (ar (fun _ => 0))))]) hx hb hml hC hA hw hl.1 (c_Scene_init l D τ _ a42 ) kX6_init ml_X1_24 [9] [0, 1, 2, 3, 4, 5, 6, 7, 8] rfl rfl (by decide) (by decide) (by decide) rfl rfl (Nat.le_of_ble_eq_true rfl) ⟨by decide, by decide⟩ ⟨by decide, by decide⟩ rfl rfl dX1_init_40 (fun w43 H locs hE43 hw => ?_)
  obtain ⟨c0_43, k0_43, p0_43, o0_43, f0_43, g0_43, hq43, rfl⟩ := hE43
  have hw : wS D A s.heap [(h7, .inr (2, [.ref a1, .int (iI 0), .int (iI 0)])), (a1, .inl (τ 3, 15, rfs (va_up (va_up (va_up (va_up (va_up (va_up (va_up (va_up (va_up (va_up (va_up (va_up (va_up (fun _ => none) 0 (some a3)) 1 (some a6)) 2 (some a9)) 3 (some a12)) 4 (some a15)) 5 (some a18)) 6 (some a21)) 7 (some a24)) 8 (some a27)) 9 (some a30)) 10 (some a33)) 11 (some a36)) 12 (some a39)))), (a3, .inr (7, [.ref c0_4, .ref k0_4, .ref p0_4, .ref o0_4, .ref f0_4, .ref g0_4, .int (iI 0), .int (iI 0), .int (iI 0), .int (iI 0), .int (iI 0)])), (c0_4, .inl (τ 0, 6, .inl (ar (fun _ => 0)))), (k0_4, .inl (τ 0, 6, .inl (ar (fun _ => 0)))), (p0_4, .inl (τ 0, 8, .inl (ar (fun _ => 0)))), (o0_4, .inl (τ 0, 8, .inl (ar (fun _ => 0)))), (f0_4, .inl (τ 0, 8, .inl (ar (fun _ => 0)))), (g0_4, .inl (τ 0, 8, .inl (ar (fun _ => 0)))), (a42, .inr (7, [.ref c0_43, .ref k0_43, .ref p0_43, .ref o0_43, .ref f0_43, .ref g0_43, .int (iI 0), .int (iI 0), .int (iI 0), .int (iI 0), .int (iI 0)])), (c0_43, .inl (τ 0, 6, .inl (ar (fun _ => 0)))), (k0_43, .inl (τ 0, 6, .inl (ar (fun _ => 0)))), (p0_43, .inl (τ 0, 8, .inl (ar (fun _ => 0)))), (o0_43, .inl (τ 0, 8, .inl (ar (fun _ => 0)))), (f0_43, .inl (τ 0, 8, .inl (ar (fun _ => 0)))), (g0_43, .inl (τ 0, 8, .inl (ar (fun _ => 0))))] H locs := hw
  refine r_aastS (f' := (va_up (va_up (va_up (va_up (va_up (va_up (va_up (va_up (va_up (va_up (va_up (va_up (va_up (va_up (fun _ => none) 0 (some a3)) 1 (some a6)) 2 (some a9)) 3 (some a12)) 4 (some a15)) 5 (some a18)) 6 (some a21)) 7 (some a24)) 8 (some a27)) 9 (some a30)) 10 (some a33)) 11 (some a36)) 12 (some a39)) 13 (some a42))) (ws' := [(h7, .inr (2, [.ref a1, .int (iI 0), .int (iI 0)])), (a1, .inl (τ 3, 15, rfs (va_up (va_up (va_up (va_up (va_up (va_up (va_up (va_up (va_up (va_up (va_up (va_up (va_up (va_up (fun _ => none) 0 (some a3)) 1 (some a6)) 2 (some a9)) 3 (some a12)) 4 (some a15)) 5 (some a18)) 6 (some a21)) 7 (some a24)) 8 (some a27)) 9 (some a30)) 10 (some a33)) 11 (some a36)) 12 (some a39)) 13 (some a42)))), (a3, .inr (7, [.ref c0_4, .ref k0_4, .ref p0_4, .ref o0_4, .ref f0_4, .ref g0_4, .int (iI 0), .int (iI 0), .int (iI 0), .int (iI 0), .int (iI 0)])), (c0_4, .inl (τ 0, 6, .inl (ar (fun _ => 0)))), (k0_4, .inl (τ 0, 6, .inl (ar (fun _ => 0)))), (p0_4, .inl (τ 0, 8, .inl (ar (fun _ => 0)))), (o0_4, .inl (τ 0, 8, .inl (ar (fun _ => 0)))), (f0_4, .inl (τ 0, 8, .inl (ar (fun _ => 0)))), (g0_4, .inl (τ 0, 8, .inl (ar (fun _ => 0)))), (a42, .inr (7, [.ref c0_43, .ref k0_43, .ref p0_43, .ref o0_43, .ref f0_43, .ref g0_43, .int (iI 0), .int (iI 0), .int (iI 0), .int (iI 0), .int (iI 0)])), (c0_43, .inl (τ 0, 6, .inl (ar (fun _ => 0)))), (k0_43, .inl (τ 0, 6, .inl (ar (fun _ => 0)))), (p0_43, .inl (τ 0, 8, .inl (ar (fun _ => 0)))), (o0_43, .inl (τ 0, 8, .inl (ar (fun _ => 0)))), (f0_43, .inl (τ 0, 8, .inl (ar (fun _ => 0)))), (g0_43, .inl (τ 0, 8, .inl (ar (fun _ => 0))))]) hx hb hC hw 1 9 rfl rfl (by decide) (by decide) (by decide) rfl rfl dX1_init_43 (fun H locs hw => ?_)
  have hw : wS D A s.heap [(h7, .inr (2, [.ref a1, .int (iI 0), .int (iI 0)])), (a1, .inl (τ 3, 15, rfs (va_up (va_up (va_up (va_up (va_up (va_up (va_up (va_up (va_up (va_up (va_up (va_up (va_up (va_up (fun _ => none) 0 (some a3)) 1 (some a6)) 2 (some a9)) 3 (some a12)) 4 (some a15)) 5 (some a18)) 6 (some a21)) 7 (some a24)) 8 (some a27)) 9 (some a30)) 10 (some a33)) 11 (some a36)) 12 (some a39)) 13 (some a42)))), (a3, .inr (7, [.ref c0_4, .ref k0_4, .ref p0_4, .ref o0_4, .ref f0_4, .ref g0_4, .int (iI 0), .int (iI 0), .int (iI 0), .int (iI 0), .int (iI 0)])), (c0_4, .inl (τ 0, 6, .inl (ar (fun _ => 0)))), (k0_4, .inl (τ 0, 6, .inl (ar (fun _ => 0)))), (p0_4, .inl (τ 0, 8, .inl (ar (fun _ => 0)))), (o0_4, .inl (τ 0, 8, .inl (ar (fun _ => 0)))), (f0_4, .inl (τ 0, 8, .inl (ar (fun _ => 0)))), (g0_4, .inl (τ 0, 8, .inl (ar (fun _ => 0))))] H _ := hw.pick [0, 1, 2, 3, 4, 5, 6, 7, 8] (by decide) rfl
  refine r_iinc (v := 14) (lv' := [(1, .int (iI 14)), (0, .ref h7)]) hx hb dX1_init_44 hl (k := 0) rfl rfl (by decide) rfl (fun ls hl => ?_)
  refine lv_goto (tgt := 25) hx hb dX1_init_47 (by decide) ?_
  refine lv_iload_n hx hb dX1_init_25 rfl (lv_at hl 0 rfl) ?_
  refine r_bipush hx hb dX1_init_26 (by decide +kernel) ?_
  refine r_icmp_ge (tgt := 50) hx hb dX1_init_28 (by decide) (by decide) (by decide) (fun hbr44 => (by exfalso; omega)) (fun hbr44 => ?_)
  refine lv_aload_n hx hb dX1_init_31 rfl (lv_at hl 1 rfl) ?_
  refine gf_X1_11 hx hb hC hw 0 rfl rfl dX1_init_32 ?_
  refine lv_iload_n hx hb dX1_init_35 rfl (lv_at hl 0 rfl) ?_
  refine r_new (ci := 7) (fs := [.null, .null, .null, .null, .null, .null, .int (iI 0), .int (iI 0), .int (iI 0), .int (iI 0), .int (iI 0)]) hx hb hC hA hw iX6 tyX6 tyX6_ok rfl cl_X1_9 it_X6 in_X6 df_X6 (by decide) (by decide) rfl rfl dX1_init_36 (fun a45 H hw => ?_)
  have hw : wS D A s.heap [(h7, .inr (2, [.ref a1, .int (iI 0), .int (iI 0)])), (a1, .inl (τ 3, 15, rfs (va_up (va_up (va_up (va_up (va_up (va_up (va_up (va_up (va_up (va_up (va_up (va_up (va_up (va_up (fun _ => none) 0 (some a3)) 1 (some a6)) 2 (some a9)) 3 (some a12)) 4 (some a15)) 5 (some a18)) 6 (some a21)) 7 (some a24)) 8 (some a27)) 9 (some a30)) 10 (some a33)) 11 (some a36)) 12 (some a39)) 13 (some a42)))), (a3, .inr (7, [.ref c0_4, .ref k0_4, .ref p0_4, .ref o0_4, .ref f0_4, .ref g0_4, .int (iI 0), .int (iI 0), .int (iI 0), .int (iI 0), .int (iI 0)])), (c0_4, .inl (τ 0, 6, .inl (ar (fun _ => 0)))), (k0_4, .inl (τ 0, 6, .inl (ar (fun _ => 0)))), (p0_4, .inl (τ 0, 8, .inl (ar (fun _ => 0)))), (o0_4, .inl (τ 0, 8, .inl (ar (fun _ => 0)))), (f0_4, .inl (τ 0, 8, .inl (ar (fun _ => 0)))), (g0_4, .inl (τ 0, 8, .inl (ar (fun _ => 0)))), (a45, .inr (7, [.null, .null, .null, .null, .null, .null, .int (iI 0), .int (iI 0), .int (iI 0), .int (iI 0), .int (iI 0)]))] H _ := hw
  refine lv_dup hx hb dX1_init_39 rfl ?_
  refine g_cINv (wr := [(h7, .inr (2, [.ref a1, .int (iI 0), .int (iI 0)])), (a1, .inl (τ 3, 15, rfs (va_up (va_up (va_up (va_up (va_up (va_up (va_up (va_up (va_up (va_up (va_up (va_up (va_up (va_up (fun _ => none) 0 (some a3)) 1 (some a6)) 2 (some a9)) 3 (some a12)) 4 (some a15)) 5 (some a18)) 6 (some a21)) 7 (some a24)) 8 (some a27)) 9 (some a30)) 10 (some a33)) 11 (some a36)) 12 (some a39)) 13 (some a42)))), (a3, .inr (7, [.ref c0_4, .ref k0_4, .ref p0_4, .ref o0_4, .ref f0_4, .ref g0_4, .int (iI 0), .int (iI 0), .int (iI 0), .int (iI 0), .int (iI 0)])), (c0_4, .inl (τ 0, 6, .inl (ar (fun _ => 0)))), (k0_4, .inl (τ 0, 6, .inl (ar (fun _ => 0)))), (p0_4, .inl (τ 0, 8, .inl (ar (fun _ => 0)))), (o0_4, .inl (τ 0, 8, .inl (ar (fun _ => 0)))), (f0_4, .inl (τ 0, 8, .inl (ar (fun _ => 0)))), (g0_4, .inl (τ 0, 8, .inl (ar (fun _ => 0))))]) hx hb hml hC hA hw hl.1 (c_Scene_init l D τ _ a45 ) kX6_init ml_X1_24 [9] [0, 1, 2, 3, 4, 5, 6, 7, 8] rfl rfl (by decide) (by decide) (by decide) rfl rfl (Nat.le_of_ble_eq_true rfl) ⟨by decide, by decide⟩ ⟨by decide, by decide⟩ rfl rfl dX1_init_40 (fun w46 H locs hE46 hw => ?_)
  obtain ⟨c0_46, k0_46, p0_46, o0_46, f0_46, g0_46, hq46, rfl⟩ := hE46
  have hw : wS D A s.heap [(h7, .inr (2, [.ref a1, .int (iI 0), .int (iI 0)])), (a1, .inl (τ 3, 15, rfs (va_up (va_up (va_up (va_up (va_up (va_up (va_up (va_up (va_up (va_up (va_up (va_up (va_up (va_up (fun _ => none) 0 (some a3)) 1 (some a6)) 2 (some a9)) 3 (some a12)) 4 (some a15)) 5 (some a18)) 6 (some a21)) 7 (some a24)) 8 (some a27)) 9 (some a30)) 10 (some a33)) 11 (some a36)) 12 (some a39)) 13 (some a42)))), (a3, .inr (7, [.ref c0_4, .ref k0_4, .ref p0_4, .ref o0_4, .ref f0_4, .ref g0_4, .int (iI 0), .int (iI 0), .int (iI 0), .int (iI 0), .int (iI 0)])), (c0_4, .inl (τ 0, 6, .inl (ar (fun _ => 0)))), (k0_4, .inl (τ 0, 6, .inl (ar (fun _ => 0)))), (p0_4, .inl (τ 0, 8, .inl (ar (fun _ => 0)))), (o0_4, .inl (τ 0, 8, .inl (ar (fun _ => 0)))), (f0_4, .inl (τ 0, 8, .inl (ar (fun _ => 0)))), (g0_4, .inl (τ 0, 8, .inl (ar (fun _ => 0)))), (a45, .inr (7, [.ref c0_46, .ref k0_46, .ref p0_46, .ref o0_46, .ref f0_46, .ref g0_46, .int (iI 0), .int (iI 0), .int (iI 0), .int (iI 0), .int (iI 0)])), (c0_46, .inl (τ 0, 6, .inl (ar (fun _ => 0)))), (k0_46, .inl (τ 0, 6, .inl (ar (fun _ => 0)))), (p0_46, .inl (τ 0, 8, .inl (ar (fun _ => 0)))), (o0_46, .inl (τ 0, 8, .inl (ar (fun _ => 0)))), (f0_46, .inl (τ 0, 8, .inl (ar (fun _ => 0)))), (g0_46, .inl (τ 0, 8, .inl (ar (fun _ => 0))))] H locs := hw
  refine r_aastS (f' := (va_up (va_up (va_up (va_up (va_up (va_up (va_up (va_up (va_up (va_up (va_up (va_up (va_up (va_up (va_up (fun _ => none) 0 (some a3)) 1 (some a6)) 2 (some a9)) 3 (some a12)) 4 (some a15)) 5 (some a18)) 6 (some a21)) 7 (some a24)) 8 (some a27)) 9 (some a30)) 10 (some a33)) 11 (some a36)) 12 (some a39)) 13 (some a42)) 14 (some a45))) (ws' := [(h7, .inr (2, [.ref a1, .int (iI 0), .int (iI 0)])), (a1, .inl (τ 3, 15, rfs (va_up (va_up (va_up (va_up (va_up (va_up (va_up (va_up (va_up (va_up (va_up (va_up (va_up (va_up (va_up (fun _ => none) 0 (some a3)) 1 (some a6)) 2 (some a9)) 3 (some a12)) 4 (some a15)) 5 (some a18)) 6 (some a21)) 7 (some a24)) 8 (some a27)) 9 (some a30)) 10 (some a33)) 11 (some a36)) 12 (some a39)) 13 (some a42)) 14 (some a45)))), (a3, .inr (7, [.ref c0_4, .ref k0_4, .ref p0_4, .ref o0_4, .ref f0_4, .ref g0_4, .int (iI 0), .int (iI 0), .int (iI 0), .int (iI 0), .int (iI 0)])), (c0_4, .inl (τ 0, 6, .inl (ar (fun _ => 0)))), (k0_4, .inl (τ 0, 6, .inl (ar (fun _ => 0)))), (p0_4, .inl (τ 0, 8, .inl (ar (fun _ => 0)))), (o0_4, .inl (τ 0, 8, .inl (ar (fun _ => 0)))), (f0_4, .inl (τ 0, 8, .inl (ar (fun _ => 0)))), (g0_4, .inl (τ 0, 8, .inl (ar (fun _ => 0)))), (a45, .inr (7, [.ref c0_46, .ref k0_46, .ref p0_46, .ref o0_46, .ref f0_46, .ref g0_46, .int (iI 0), .int (iI 0), .int (iI 0), .int (iI 0), .int (iI 0)])), (c0_46, .inl (τ 0, 6, .inl (ar (fun _ => 0)))), (k0_46, .inl (τ 0, 6, .inl (ar (fun _ => 0)))), (p0_46, .inl (τ 0, 8, .inl (ar (fun _ => 0)))), (o0_46, .inl (τ 0, 8, .inl (ar (fun _ => 0)))), (f0_46, .inl (τ 0, 8, .inl (ar (fun _ => 0)))), (g0_46, .inl (τ 0, 8, .inl (ar (fun _ => 0))))]) hx hb hC hw 1 9 rfl rfl (by decide) (by decide) (by decide) rfl rfl dX1_init_43 (fun H locs hw => ?_)
  have hw : wS D A s.heap [(h7, .inr (2, [.ref a1, .int (iI 0), .int (iI 0)])), (a1, .inl (τ 3, 15, rfs (va_up (va_up (va_up (va_up (va_up (va_up (va_up (va_up (va_up (va_up (va_up (va_up (va_up (va_up (va_up (fun _ => none) 0 (some a3)) 1 (some a6)) 2 (some a9)) 3 (some a12)) 4 (some a15)) 5 (some a18)) 6 (some a21)) 7 (some a24)) 8 (some a27)) 9 (some a30)) 10 (some a33)) 11 (some a36)) 12 (some a39)) 13 (some a42)) 14 (some a45)))), (a3, .inr (7, [.ref c0_4, .ref k0_4, .ref p0_4, .ref o0_4, .ref f0_4, .ref g0_4, .int (iI 0), .int (iI 0), .int (iI 0), .int (iI 0), .int (iI 0)])), (c0_4, .inl (τ 0, 6, .inl (ar (fun _ => 0)))), (k0_4, .inl (τ 0, 6, .inl (ar (fun _ => 0)))), (p0_4, .inl (τ 0, 8, .inl (ar (fun _ => 0)))), (o0_4, .inl (τ 0, 8, .inl (ar (fun _ => 0)))), (f0_4, .inl (τ 0, 8, .inl (ar (fun _ => 0)))), (g0_4, .inl (τ 0, 8, .inl (ar (fun _ => 0))))] H _ := hw.pick [0, 1, 2, 3, 4, 5, 6, 7, 8] (by decide) rfl
  refine r_iinc (v := 15) (lv' := [(1, .int (iI 15)), (0, .ref h7)]) hx hb dX1_init_44 hl (k := 0) rfl rfl (by decide) rfl (fun ls hl => ?_)
  refine lv_goto (tgt := 25) hx hb dX1_init_47 (by decide) ?_
  refine lv_iload_n hx hb dX1_init_25 rfl (lv_at hl 0 rfl) ?_
  refine r_bipush hx hb dX1_init_26 (by decide +kernel) ?_
  refine r_icmp_ge (tgt := 50) hx hb dX1_init_28 (by decide) (by decide) (by decide) (fun hbr47 => ?_) (fun hbr47 => (by exfalso; omega))
  exact r_vret hx hb hr hlk hw [(h7, .inr (2, [.ref a1, .int (iI 0), .int (iI 0)])), (a1, .inl (τ 3, 15, rfs (va_up (va_up (va_up (va_up (va_up (va_up (va_up (va_up (va_up (va_up (va_up (va_up (va_up (va_up (va_up (fun _ => none) 0 (some a3)) 1 (some a6)) 2 (some a9)) 3 (some a12)) 4 (some a15)) 5 (some a18)) 6 (some a21)) 7 (some a24)) 8 (some a27)) 9 (some a30)) 10 (some a33)) 11 (some a36)) 12 (some a39)) 13 (some a42)) 14 (some a45)))), (a3, .inr (7, [.ref c0_4, .ref k0_4, .ref p0_4, .ref o0_4, .ref f0_4, .ref g0_4, .int (iI 0), .int (iI 0), .int (iI 0), .int (iI 0), .int (iI 0)])), (c0_4, .inl (τ 0, 6, .inl (ar (fun _ => 0)))), (k0_4, .inl (τ 0, 6, .inl (ar (fun _ => 0)))), (p0_4, .inl (τ 0, 8, .inl (ar (fun _ => 0)))), (o0_4, .inl (τ 0, 8, .inl (ar (fun _ => 0)))), (f0_4, .inl (τ 0, 8, .inl (ar (fun _ => 0)))), (g0_4, .inl (τ 0, 8, .inl (ar (fun _ => 0))))] [0, 1, 2, 3, 4, 5, 6, 7, 8] rfl (by decide) ⟨a1, a3, c0_4, k0_4, p0_4, o0_4, f0_4, g0_4, (va_up (va_up (va_up (va_up (va_up (va_up (va_up (va_up (va_up (va_up (va_up (va_up (va_up (va_up (va_up (fun _ => none) 0 (some a3)) 1 (some a6)) 2 (some a9)) 3 (some a12)) 4 (some a15)) 5 (some a18)) 6 (some a21)) 7 (some a24)) 8 (some a27)) 9 (some a30)) 10 (some a33)) 11 (some a36)) 12 (some a39)) 13 (some a42)) 14 (some a45)), (by exact rfl), rfl⟩ dX1_init_50
abbrev W_c_Hist_add0 (τ : Nat → ClassId) (h7 : Nat) (ha7 : Nat) (hf7 : Nat → Option Nat) (h0 : Nat) (c0 : Nat) (k0 : Nat) (p0 : Nat) (o0 : Nat) (f0 : Nat) (g0 : Nat) (hc0 : Int) (mc0 : Int) (ac0 : Int) (ec0 : Int) (stp0 : Int) (ce0 : Int → Int) (ra0 : Int → Int) (pl0 : Int → Int) (ow0 : Int → Int) (fo0 : Int → Int) (gr0 : Int → Int) (h1 : Nat) (c1 : Nat) (k1 : Nat) (p1 : Nat) (o1 : Nat) (f1 : Nat) (g1 : Nat) (hc1 : Int) (mc1 : Int) (ac1 : Int) (ec1 : Int) (stp1 : Int) (ce1 : Int → Int) (ra1 : Int → Int) (pl1 : Int → Int) (ow1 : Int → Int) (fo1 : Int → Int) (gr1 : Int → Int) : va_W := [(h7, .inr (2, [.ref ha7, .int (iI 0), .int (iI 0)])), (ha7, .inl (τ 3, 15, rfs hf7)), (h0, .inr (7, [.ref c0, .ref k0, .ref p0, .ref o0, .ref f0, .ref g0, .int (iI hc0), .int (iI mc0), .int (iI ac0), .int (iI ec0), .int (iI stp0)])), (c0, .inl (τ 0, 6, .inl (ar ce0))), (k0, .inl (τ 0, 6, .inl (ar ra0))), (p0, .inl (τ 0, 8, .inl (ar pl0))), (o0, .inl (τ 0, 8, .inl (ar ow0))), (f0, .inl (τ 0, 8, .inl (ar fo0))), (g0, .inl (τ 0, 8, .inl (ar gr0))), (h1, .inr (7, [.ref c1, .ref k1, .ref p1, .ref o1, .ref f1, .ref g1, .int (iI hc1), .int (iI mc1), .int (iI ac1), .int (iI ec1), .int (iI stp1)])), (c1, .inl (τ 0, 6, .inl (ar ce1))), (k1, .inl (τ 0, 6, .inl (ar ra1))), (p1, .inl (τ 0, 8, .inl (ar pl1))), (o1, .inl (τ 0, 8, .inl (ar ow1))), (f1, .inl (τ 0, 8, .inl (ar fo1))), (g1, .inl (τ 0, 8, .inl (ar gr1)))]
abbrev E_c_Hist_add0 (τ : Nat → ClassId) (h7 : Nat) (ha7 : Nat) (hf7 : Nat → Option Nat) (h0 : Nat) (c0 : Nat) (k0 : Nat) (p0 : Nat) (o0 : Nat) (f0 : Nat) (g0 : Nat) (hc0 : Int) (mc0 : Int) (ac0 : Int) (ec0 : Int) (stp0 : Int) (ce0 : Int → Int) (ra0 : Int → Int) (pl0 : Int → Int) (ow0 : Int → Int) (fo0 : Int → Int) (gr0 : Int → Int) (h1 : Nat) (c1 : Nat) (k1 : Nat) (p1 : Nat) (o1 : Nat) (f1 : Nat) (g1 : Nat) (hc1 : Int) (mc1 : Int) (ac1 : Int) (ec1 : Int) (stp1 : Int) (ce1 : Int → Int) (ra1 : Int → Int) (pl1 : Int → Int) (ow1 : Int → Int) (fo1 : Int → Int) (gr1 : Int → Int) : va_W → Prop := fun w => (True) ∧ w = [(h7, .inr (2, [.ref ha7, .int (iI 0), .int (iI 1)])), (ha7, .inl (τ 3, 15, rfs hf7))]
set_option maxHeartbeats 4000000 in
set_option maxRecDepth 100000 in
theorem c_Hist_add0 (l : Launch) (D : va_G) (τ : Nat → ClassId) (sz : Nat) (h7 : Nat) (ha7 : Nat) (hf7 : Nat → Option Nat) (h0 : Nat) (c0 : Nat) (k0 : Nat) (p0 : Nat) (o0 : Nat) (f0 : Nat) (g0 : Nat) (hc0 : Int) (mc0 : Int) (ac0 : Int) (ec0 : Int) (stp0 : Int) (ce0 : Int → Int) (ra0 : Int → Int) (pl0 : Int → Int) (ow0 : Int → Int) (fo0 : Int → Int) (gr0 : Int → Int) (h1 : Nat) (c1 : Nat) (k1 : Nat) (p1 : Nat) (o1 : Nat) (f1 : Nat) (g1 : Nat) (hc1 : Int) (mc1 : Int) (ac1 : Int) (ec1 : Int) (stp1 : Int) (ce1 : Int → Int) (ra1 : Int → Int) (pl1 : Int → Int) (ow1 : Int → Int) (fo1 : Int → Int) (gr1 : Int → Int) (hp0 : hf7 0 = some h0) : Met l yX1_add (lw_w yX1_add cX1_add 2 none) (rmk 2 0 0) (gPc D τ (W_c_Hist_add0 τ h7 ha7 hf7 h0 c0 k0 p0 o0 f0 g0 hc0 mc0 ac0 ec0 stp0 ce0 ra0 pl0 ow0 fo0 gr0 h1 c1 k1 p1 o1 f1 g1 hc1 mc1 ac1 ec1 stp1 ce1 ra1 pl1 ow1 fo1 gr1) sz [.ref h7, .ref h1]) (gQv D (E_c_Hist_add0 τ h7 ha7 hf7 h0 c0 k0 p0 o0 f0 g0 hc0 mc0 ac0 ec0 stp0 ce0 ra0 pl0 ow0 fo0 gr0 h1 c1 k1 p1 o1 f1 g1 hc1 mc1 ac1 ec1 stp1 ce1 ra1 pl1 ow1 fo1 gr1) (va_A (W_c_Hist_add0 τ h7 ha7 hf7 h0 c0 k0 p0 o0 f0 g0 hc0 mc0 ac0 ec0 stp0 ce0 ra0 pl0 ow0 fo0 gr0 h1 c1 k1 p1 o1 f1 g1 hc1 mc1 ac1 ec1 stp1 ce1 ra1 pl1 ow1 fo1 gr1) sz)) 0 0 (va_A (W_c_Hist_add0 τ h7 ha7 hf7 h0 c0 k0 p0 o0 f0 g0 hc0 mc0 ac0 ec0 stp0 ce0 ra0 pl0 ow0 fo0 gr0 h1 c1 k1 p1 o1 f1 g1 hc1 mc1 ac1 ec1 stp1 ce1 ra1 pl1 ow1 fo1 gr1) sz) := by
  refine g_met (ret := none) (Qc := gQv D (E_c_Hist_add0 τ h7 ha7 hf7 h0 c0 k0 p0 o0 f0 g0 hc0 mc0 ac0 ec0 stp0 ce0 ra0 pl0 ow0 fo0 gr0 h1 c1 k1 p1 o1 f1 g1 hc1 mc1 ac1 ec1 stp1 ce1 ra1 pl1 ow1 fo1 gr1)) (by decide +kernel) (Nat.le_of_ble_eq_true rfl) ?_
  intro p e s m args below meth c A ls hx hb hml hr hlk hnm hC hA hw hl
  have hC : cx D τ s m args RX1 := hC
  have hl : lv_has ls 2 [(0, .ref h7), (1, .ref h1)] := hl
  have hw : wS D A s.heap [(h7, .inr (2, [.ref ha7, .int (iI 0), .int (iI 0)])), (ha7, .inl (τ 3, 15, rfs hf7)), (h0, .inr (7, [.ref c0, .ref k0, .ref p0, .ref o0, .ref f0, .ref g0, .int (iI hc0), .int (iI mc0), .int (iI ac0), .int (iI ec0), .int (iI stp0)])), (c0, .inl (τ 0, 6, .inl (ar ce0))), (k0, .inl (τ 0, 6, .inl (ar ra0))), (p0, .inl (τ 0, 8, .inl (ar pl0))), (o0, .inl (τ 0, 8, .inl (ar ow0))), (f0, .inl (τ 0, 8, .inl (ar fo0))), (g0, .inl (τ 0, 8, .inl (ar gr0))), (h1, .inr (7, [.ref c1, .ref k1, .ref p1, .ref o1, .ref f1, .ref g1, .int (iI hc1), .int (iI mc1), .int (iI ac1), .int (iI ec1), .int (iI stp1)])), (c1, .inl (τ 0, 6, .inl (ar ce1))), (k1, .inl (τ 0, 6, .inl (ar ra1))), (p1, .inl (τ 0, 8, .inl (ar pl1))), (o1, .inl (τ 0, 8, .inl (ar ow1))), (f1, .inl (τ 0, 8, .inl (ar fo1))), (g1, .inl (τ 0, 8, .inl (ar gr1)))] s.heap [] := hw
  refine lv_aload_n hx hb dX1_add_0 rfl (lv_at hl 0 rfl) ?_
  refine gf_X1_11 hx hb hC hw 0 rfl rfl dX1_add_1 ?_
  refine lv_aload_n hx hb dX1_add_4 rfl (lv_at hl 0 rfl) ?_
  refine gf_X1_17 hx hb hC hw 0 rfl rfl dX1_add_5 ?_
  refine lv_aload_n hx hb dX1_add_8 rfl (lv_at hl 0 rfl) ?_
  refine gf_X1_21 hx hb hC hw 0 rfl rfl dX1_add_9 ?_
  refine r_iadd (z := 0) hx hb dX1_add_12 rfl ?_
  refine r_bipush hx hb dX1_add_13 (by decide +kernel) ?_
  refine rc_irem (z := 0) hx hb dX1_add_15 (by decide) (by decide) (by decide +kernel) ?_
  refine r_aaldS (n := 15) (f := hf7) (v := .ref h0) hx hb hC hw 1 rfl (by decide) (by decide) (by decide) (by rw [show (0 : Int).toNat = 0 from rfl, hp0]; rfl) dX1_add_16 ?_
  refine lv_aload_n hx hb dX1_add_17 rfl (lv_at hl 1 rfl) ?_
  refine g_cVv (wr := [(h7, .inr (2, [.ref ha7, .int (iI 0), .int (iI 0)])), (ha7, .inl (τ 3, 15, rfs hf7))]) (q0 := 0) (ci := 7) hx hb hml hC hA hw hl.1 (c_Scene_copyFrom l D τ _ h0 c0 k0 p0 o0 f0 g0 hc0 mc0 ac0 ec0 stp0 ce0 ra0 pl0 ow0 fo0 gr0 h1 c1 k1 p1 o1 f1 g1 hc1 mc1 ac1 ec1 stp1 ce1 ra1 pl1 ow1 fo1 gr1 ) kX6_copyFrom ml_X1_25 [2, 3, 4, 5, 6, 7, 8, 9, 10, 11, 12, 13, 14, 15] [0, 1] rfl rfl (by decide) (by decide) (by decide) rfl rfl rfl rfl (Nat.le_of_ble_eq_true rfl) ⟨by decide, by decide⟩ ⟨by decide, by decide⟩ rfl rfl dX1_add_18 (fun w1 H locs hE1 hw => ?_)
  obtain ⟨hq1, rfl⟩ := hE1
  have hw : wS D A s.heap [(h7, .inr (2, [.ref ha7, .int (iI 0), .int (iI 0)])), (ha7, .inl (τ 3, 15, rfs hf7)), (h0, .inr (7, [.ref c0, .ref k0, .ref p0, .ref o0, .ref f0, .ref g0, .int (iI hc1), .int (iI mc1), .int (iI ac1), .int (iI ec1), .int (iI stp1)])), (c0, .inl (τ 0, 6, .inl (ar (cpy ce1 ce0 6)))), (k0, .inl (τ 0, 6, .inl (ar (cpy ra1 ra0 6)))), (p0, .inl (τ 0, 8, .inl (ar (cpy pl1 pl0 8)))), (o0, .inl (τ 0, 8, .inl (ar (cpy ow1 ow0 8)))), (f0, .inl (τ 0, 8, .inl (ar (cpy fo1 fo0 8)))), (g0, .inl (τ 0, 8, .inl (ar (cpy gr1 gr0 8)))), (h1, .inr (7, [.ref c1, .ref k1, .ref p1, .ref o1, .ref f1, .ref g1, .int (iI hc1), .int (iI mc1), .int (iI ac1), .int (iI ec1), .int (iI stp1)])), (c1, .inl (τ 0, 6, .inl (ar ce1))), (k1, .inl (τ 0, 6, .inl (ar ra1))), (p1, .inl (τ 0, 8, .inl (ar pl1))), (o1, .inl (τ 0, 8, .inl (ar ow1))), (f1, .inl (τ 0, 8, .inl (ar fo1))), (g1, .inl (τ 0, 8, .inl (ar gr1)))] H locs := hw
  refine lv_aload_n hx hb dX1_add_21 rfl (lv_at hl 0 rfl) ?_
  refine gf_X1_21 hx hb hC hw 0 rfl rfl dX1_add_22 ?_
  refine r_bipush hx hb dX1_add_25 (by decide +kernel) ?_
  refine r_icmp_ge (tgt := 43) hx hb dX1_add_27 (by decide) (by decide) (by decide) (fun hbr2 => (by exfalso; omega)) (fun hbr2 => ?_)
  refine lv_aload_n hx hb dX1_add_30 rfl (lv_at hl 0 rfl) ?_
  refine lv_dup hx hb dX1_add_31 rfl ?_
  refine gf_X1_21 hx hb hC hw 0 rfl rfl dX1_add_32 ?_
  refine r_iconst hx hb dX1_add_35 ?_
  refine r_iadd (z := 1) hx hb dX1_add_36 rfl ?_
  refine pf_X1_21 (ws' := [(h7, .inr (2, [.ref ha7, .int (iI 0), .int (iI 1)])), (ha7, .inl (τ 3, 15, rfs hf7)), (h0, .inr (7, [.ref c0, .ref k0, .ref p0, .ref o0, .ref f0, .ref g0, .int (iI hc1), .int (iI mc1), .int (iI ac1), .int (iI ec1), .int (iI stp1)])), (c0, .inl (τ 0, 6, .inl (ar (cpy ce1 ce0 6)))), (k0, .inl (τ 0, 6, .inl (ar (cpy ra1 ra0 6)))), (p0, .inl (τ 0, 8, .inl (ar (cpy pl1 pl0 8)))), (o0, .inl (τ 0, 8, .inl (ar (cpy ow1 ow0 8)))), (f0, .inl (τ 0, 8, .inl (ar (cpy fo1 fo0 8)))), (g0, .inl (τ 0, 8, .inl (ar (cpy gr1 gr0 8)))), (h1, .inr (7, [.ref c1, .ref k1, .ref p1, .ref o1, .ref f1, .ref g1, .int (iI hc1), .int (iI mc1), .int (iI ac1), .int (iI ec1), .int (iI stp1)])), (c1, .inl (τ 0, 6, .inl (ar ce1))), (k1, .inl (τ 0, 6, .inl (ar ra1))), (p1, .inl (τ 0, 8, .inl (ar pl1))), (o1, .inl (τ 0, 8, .inl (ar ow1))), (f1, .inl (τ 0, 8, .inl (ar fo1))), (g1, .inl (τ 0, 8, .inl (ar gr1)))]) hx hb hC hw 0 rfl (Nat.le_of_ble_eq_true rfl) rfl dX1_add_37 (fun H locs hw => ?_)
  refine lv_goto (tgt := 56) hx hb dX1_add_40 (by decide) ?_
  exact r_vret hx hb hr hlk hw [(h7, .inr (2, [.ref ha7, .int (iI 0), .int (iI 1)])), (ha7, .inl (τ 3, 15, rfs hf7))] [0, 1] rfl (by decide) ⟨trivial, rfl⟩ dX1_add_56
abbrev W_c_Hist_takeBack0 (τ : Nat → ClassId) (h7 : Nat) (ha7 : Nat) (b : Nat) (fir7 : Int) : va_W := [(h7, .inr (2, [.ref ha7, .int (iI fir7), .int (iI 0)]))]
abbrev E_c_Hist_takeBack0 (τ : Nat → ClassId) (h7 : Nat) (ha7 : Nat) (b : Nat) (fir7 : Int) : Int → va_W → Prop := fun z w => (z = 0) ∧ w = [(h7, .inr (2, [.ref ha7, .int (iI fir7), .int (iI 0)]))]
set_option maxHeartbeats 4000000 in
set_option maxRecDepth 100000 in
theorem c_Hist_takeBack0 (l : Launch) (D : va_G) (τ : Nat → ClassId) (sz : Nat) (h7 : Nat) (ha7 : Nat) (b : Nat) (fir7 : Int)  : Met l yX1_takeBack (lw_w yX1_takeBack cX1_takeBack 2 (some .boolean)) (rmk 1 0 0) (gPc D τ (W_c_Hist_takeBack0 τ h7 ha7 b fir7) sz [.ref h7, .ref b]) (gQi D (E_c_Hist_takeBack0 τ h7 ha7 b fir7) (va_A (W_c_Hist_takeBack0 τ h7 ha7 b fir7) sz)) 0 0 (va_A (W_c_Hist_takeBack0 τ h7 ha7 b fir7) sz) := by
  refine g_met (ret := (some .boolean)) (Qc := gQi D (E_c_Hist_takeBack0 τ h7 ha7 b fir7)) (by decide +kernel) (Nat.le_of_ble_eq_true rfl) ?_
  intro p e s m args below meth c A ls hx hb hml hr hlk hnm hC hA hw hl
  have hC : cx D τ s m args RX1 := hC
  have hl : lv_has ls 2 [(0, .ref h7), (1, .ref b)] := hl
  have hw : wS D A s.heap [(h7, .inr (2, [.ref ha7, .int (iI fir7), .int (iI 0)]))] s.heap [] := hw
  refine lv_aload_n hx hb dX1_takeBack_0 rfl (lv_at hl 0 rfl) ?_
  refine gf_X1_21 hx hb hC hw 0 rfl rfl dX1_takeBack_1 ?_
  refine r_if_ne (tgt := 9) hx hb dX1_takeBack_4 (by decide) (by decide) (fun hbr1 => (by exfalso; omega)) (fun hbr1 => ?_)
  refine r_iconst hx hb dX1_takeBack_7 ?_
  exact r_zret (z := 0) hx hb hr hlk hw [(h7, .inr (2, [.ref ha7, .int (iI fir7), .int (iI 0)]))] [0] rfl (by decide) (by decide) (by decide) ⟨(by omega), rfl⟩ dX1_takeBack_8
abbrev W_c_Shar_init (τ : Nat → ClassId) (h10 : Nat) : va_W := [(h10, .inr (8, [.null, .int (iI 0)]))]
abbrev E_c_Shar_init (τ : Nat → ClassId) (h10 : Nat) : va_W → Prop := fun w => ∃ (m10 : Nat), ∃ (r10 : Nat), ∃ (mf10 : Nat → Option Nat), (mf10 0 = some r10) ∧ w = [(h10, .inr (8, [.ref m10, .int (iI 0)])), (m10, .inl (τ 4, 9, rfs mf10)), (r10, .inl (τ 0, 64, .inl (ar (fun _ => 0))))]
set_option maxHeartbeats 4000000 in
set_option maxRecDepth 100000 in
theorem c_Shar_init (l : Launch) (D : va_G) (τ : Nat → ClassId) (sz : Nat) (h10 : Nat)  : Met l yX7_init (lw_w yX7_init cX7_init 1 none) (rmk 1 10 585) (gPc D τ (W_c_Shar_init τ h10) sz [.ref h10]) (gQv D (E_c_Shar_init τ h10) (va_A (W_c_Shar_init τ h10) sz)) 10 585 (va_A (W_c_Shar_init τ h10) sz) := by
  refine g_met (ret := none) (Qc := gQv D (E_c_Shar_init τ h10)) (by decide +kernel) (Nat.le_of_ble_eq_true rfl) ?_
  intro p e s m args below meth c A ls hx hb hml hr hlk hnm hC hA hw hl
  have hC : cx D τ s m args RX7 := hC
  have hl : lv_has ls 1 [(0, .ref h10)] := hl
  have hw : wS D A s.heap [(h10, .inr (8, [.null, .int (iI 0)]))] s.heap [] := hw
  refine lv_aload_n hx hb dX7_init_0 rfl (lv_at hl 0 rfl) ?_
  refine r_objInit hx hb hml hC hl.1 ml_X7_3 im_init cd_init (by decide) (Nat.le_of_ble_eq_true rfl) (by decide) dX7_init_1 ?_
  refine lv_aload_n hx hb dX7_init_4 rfl (lv_at hl 0 rfl) ?_
  refine r_bipush hx hb dX7_init_5 (by decide +kernel) ?_
  refine r_bipush hx hb dX7_init_7 (by decide +kernel) ?_
  refine r_mna (N := 9) (K := 64) hx hb hC hA hw cl_X7_9 ac_int (by decide) (by decide) (by decide) (by decide) rfl rfl dX7_init_9 (fun a1 r1 H hw => ?_)
  have hw : wS D A s.heap [(h10, .inr (8, [.null, .int (iI 0)])), (a1, .inl (τ 4, 9, rfs (fun i => if i < 9 then some (r1 i) else none))), ((r1 0), .inl (τ 0, 64, .inl (ar (fun _ => 0)))), ((r1 1), .inl (τ 0, 64, .inl (ar (fun _ => 0)))), ((r1 2), .inl (τ 0, 64, .inl (ar (fun _ => 0)))), ((r1 3), .inl (τ 0, 64, .inl (ar (fun _ => 0)))), ((r1 4), .inl (τ 0, 64, .inl (ar (fun _ => 0)))), ((r1 5), .inl (τ 0, 64, .inl (ar (fun _ => 0)))), ((r1 6), .inl (τ 0, 64, .inl (ar (fun _ => 0)))), ((r1 7), .inl (τ 0, 64, .inl (ar (fun _ => 0)))), ((r1 8), .inl (τ 0, 64, .inl (ar (fun _ => 0))))] H _ := hw
  refine pf_X7_11 (ws' := [(h10, .inr (8, [.ref a1, .int (iI 0)])), (a1, .inl (τ 4, 9, rfs (fun i => if i < 9 then some (r1 i) else none))), ((r1 0), .inl (τ 0, 64, .inl (ar (fun _ => 0)))), ((r1 1), .inl (τ 0, 64, .inl (ar (fun _ => 0)))), ((r1 2), .inl (τ 0, 64, .inl (ar (fun _ => 0)))), ((r1 3), .inl (τ 0, 64, .inl (ar (fun _ => 0)))), ((r1 4), .inl (τ 0, 64, .inl (ar (fun _ => 0)))), ((r1 5), .inl (τ 0, 64, .inl (ar (fun _ => 0)))), ((r1 6), .inl (τ 0, 64, .inl (ar (fun _ => 0)))), ((r1 7), .inl (τ 0, 64, .inl (ar (fun _ => 0)))), ((r1 8), .inl (τ 0, 64, .inl (ar (fun _ => 0))))]) hx hb hC hw hnm 0 rfl (Nat.le_of_ble_eq_true rfl) rfl dX7_init_13 (fun H locs hw => ?_)
  refine lv_aload_n hx hb dX7_init_16 rfl (lv_at hl 0 rfl) ?_
  refine r_iconst hx hb dX7_init_17 ?_
  refine pf_X7_16 (ws' := [(h10, .inr (8, [.ref a1, .int (iI 0)])), (a1, .inl (τ 4, 9, rfs (fun i => if i < 9 then some (r1 i) else none))), ((r1 0), .inl (τ 0, 64, .inl (ar (fun _ => 0)))), ((r1 1), .inl (τ 0, 64, .inl (ar (fun _ => 0)))), ((r1 2), .inl (τ 0, 64, .inl (ar (fun _ => 0)))), ((r1 3), .inl (τ 0, 64, .inl (ar (fun _ => 0)))), ((r1 4), .inl (τ 0, 64, .inl (ar (fun _ => 0)))), ((r1 5), .inl (τ 0, 64, .inl (ar (fun _ => 0)))), ((r1 6), .inl (τ 0, 64, .inl (ar (fun _ => 0)))), ((r1 7), .inl (τ 0, 64, .inl (ar (fun _ => 0)))), ((r1 8), .inl (τ 0, 64, .inl (ar (fun _ => 0))))]) hx hb hC hw 0 rfl (Nat.le_of_ble_eq_true rfl) rfl dX7_init_18 (fun H locs hw => ?_)
  exact r_vret hx hb hr hlk hw [(h10, .inr (8, [.ref a1, .int (iI 0)])), (a1, .inl (τ 4, 9, rfs (fun i => if i < 9 then some (r1 i) else none))), ((r1 0), .inl (τ 0, 64, .inl (ar (fun _ => 0))))] [0, 1, 2] rfl (by decide) ⟨a1, (r1 0), (fun i => if i < 9 then some (r1 i) else none), (by exact rfl), rfl⟩ dX7_init_21
abbrev W_c_Shar_weigh0 (τ : Nat → ClassId) (h10 : Nat) (m10 : Nat) (r10 : Nat) (mf10 : Nat → Option Nat) (rea10 : Int) (rg10 : Int → Int) (h0 : Nat) (c0 : Nat) (k0 : Nat) (p0 : Nat) (o0 : Nat) (f0 : Nat) (g0 : Nat) (ac0 : Int) (ec0 : Int) (stp0 : Int) (v : Int) : va_W := [(h10, .inr (8, [.ref m10, .int (iI rea10)])), (m10, .inl (τ 4, 9, rfs mf10)), (r10, .inl (τ 0, 64, .inl (ar rg10))), (h0, .inr (7, [.ref c0, .ref k0, .ref p0, .ref o0, .ref f0, .ref g0, .int (iI 0), .int (iI 0), .int (iI ac0), .int (iI ec0), .int (iI stp0)]))]
abbrev E_c_Shar_weigh0 (τ : Nat → ClassId) (h10 : Nat) (m10 : Nat) (r10 : Nat) (mf10 : Nat → Option Nat) (rea10 : Int) (rg10 : Int → Int) (h0 : Nat) (c0 : Nat) (k0 : Nat) (p0 : Nat) (o0 : Nat) (f0 : Nat) (g0 : Nat) (ac0 : Int) (ec0 : Int) (stp0 : Int) (v : Int) : Int → va_W → Prop := fun z w => ∃ (rg11 : Int → Int), (z = 0) ∧ w = [(h10, .inr (8, [.ref m10, .int (iI v)])), (m10, .inl (τ 4, 9, rfs mf10)), (r10, .inl (τ 0, 64, .inl (ar rg11))), (h0, .inr (7, [.ref c0, .ref k0, .ref p0, .ref o0, .ref f0, .ref g0, .int (iI 0), .int (iI 0), .int (iI ac0), .int (iI ec0), .int (iI stp0)]))]
set_option maxHeartbeats 4000000 in
set_option maxRecDepth 100000 in
theorem c_Shar_weigh0 (l : Launch) (D : va_G) (τ : Nat → ClassId) (sz : Nat) (h10 : Nat) (m10 : Nat) (r10 : Nat) (mf10 : Nat → Option Nat) (rea10 : Int) (rg10 : Int → Int) (h0 : Nat) (c0 : Nat) (k0 : Nat) (p0 : Nat) (o0 : Nat) (f0 : Nat) (g0 : Nat) (ac0 : Int) (ec0 : Int) (stp0 : Int) (v : Int) (hp0 : mf10 0 = some r10) : Met l yX7_weigh (lw_w yX7_weigh cX7_weigh 6 (some .int)) (rmk 3 0 0) (gPc D τ (W_c_Shar_weigh0 τ h10 m10 r10 mf10 rea10 rg10 h0 c0 k0 p0 o0 f0 g0 ac0 ec0 stp0 v) sz [.ref h10, .ref h0, .int (iI v)]) (gQi D (E_c_Shar_weigh0 τ h10 m10 r10 mf10 rea10 rg10 h0 c0 k0 p0 o0 f0 g0 ac0 ec0 stp0 v) (va_A (W_c_Shar_weigh0 τ h10 m10 r10 mf10 rea10 rg10 h0 c0 k0 p0 o0 f0 g0 ac0 ec0 stp0 v) sz)) 0 0 (va_A (W_c_Shar_weigh0 τ h10 m10 r10 mf10 rea10 rg10 h0 c0 k0 p0 o0 f0 g0 ac0 ec0 stp0 v) sz) := by
  refine g_met (ret := (some .int)) (Qc := gQi D (E_c_Shar_weigh0 τ h10 m10 r10 mf10 rea10 rg10 h0 c0 k0 p0 o0 f0 g0 ac0 ec0 stp0 v)) (by decide +kernel) (Nat.le_of_ble_eq_true rfl) ?_
  intro p e s m args below meth c A ls hx hb hml hr hlk hnm hC hA hw hl
  have hC : cx D τ s m args RX7 := hC
  have hl : lv_has ls 6 [(0, .ref h10), (1, .ref h0), (2, .int (iI v))] := hl
  have hw : wS D A s.heap [(h10, .inr (8, [.ref m10, .int (iI rea10)])), (m10, .inl (τ 4, 9, rfs mf10)), (r10, .inl (τ 0, 64, .inl (ar rg10))), (h0, .inr (7, [.ref c0, .ref k0, .ref p0, .ref o0, .ref f0, .ref g0, .int (iI 0), .int (iI 0), .int (iI ac0), .int (iI ec0), .int (iI stp0)]))] s.heap [] := hw
  refine lv_aload_n hx hb dX7_weigh_0 rfl (lv_at hl 0 rfl) ?_
  refine lv_iload_n hx hb dX7_weigh_1 rfl (lv_at hl 2 rfl) ?_
  refine pf_X7_16 (ws' := [(h10, .inr (8, [.ref m10, .int (iI v)])), (m10, .inl (τ 4, 9, rfs mf10)), (r10, .inl (τ 0, 64, .inl (ar rg10))), (h0, .inr (7, [.ref c0, .ref k0, .ref p0, .ref o0, .ref f0, .ref g0, .int (iI 0), .int (iI 0), .int (iI ac0), .int (iI ec0), .int (iI stp0)]))]) hx hb hC hw 0 rfl (Nat.le_of_ble_eq_true rfl) rfl dX7_weigh_2 (fun H locs hw => ?_)
  refine r_iconst hx hb dX7_weigh_5 ?_
  refine lv_aload_n hx hb dX7_weigh_6 rfl (lv_at hl 1 rfl) ?_
  refine gf_X7_20 hx hb hC hw 3 rfl rfl dX7_weigh_7 ?_
  refine rc_ishl (z := 1) hx hb dX7_weigh_10 (by decide +kernel) ?_
  refine lv_istore_n (lv' := [(3, .int (iI 1)), (0, .ref h10), (1, .ref h0), (2, .int (iI v))]) hx hb dX7_weigh_11 rfl hl (by decide) rfl (fun ls hl => ?_)
  refine r_iconst hx hb dX7_weigh_12 ?_
  refine lv_istore (lv' := [(4, .int (iI 0)), (3, .int (iI 1)), (0, .ref h10), (1, .ref h0), (2, .int (iI v))]) hx hb dX7_weigh_13 hl (by decide) rfl (fun ls hl => ?_)
  refine lv_iload hx hb dX7_weigh_15 (lv_at hl 0 rfl) ?_
  refine lv_iload_n hx hb dX7_weigh_17 rfl (lv_at hl 1 rfl) ?_
  refine r_icmp_ge (tgt := 40) hx hb dX7_weigh_18 (by decide) (by decide) (by decide) (fun hbr1 => (by exfalso; omega)) (fun hbr1 => ?_)
  refine lv_aload_n hx hb dX7_weigh_21 rfl (lv_at hl 2 rfl) ?_
  refine gf_X7_11 hx hb hC hw 0 rfl rfl dX7_weigh_22 ?_
  refine lv_aload_n hx hb dX7_weigh_25 rfl (lv_at hl 3 rfl) ?_
  refine gf_X7_25 hx hb hC hw 3 rfl rfl dX7_weigh_26 ?_
  refine r_aaldM (n := 9) (f := mf10) (v := .ref r10) hx hb hC hw 1 rfl (by decide) (by decide) (by decide) (by rw [show (0 : Int).toNat = 0 from rfl, hp0]; rfl) dX7_weigh_29 ?_
  refine lv_iload hx hb dX7_weigh_30 (lv_at hl 0 rfl) ?_
  refine r_iconst hx hb dX7_weigh_32 ?_
  refine r_iast (ws' := [(h10, .inr (8, [.ref m10, .int (iI v)])), (m10, .inl (τ 4, 9, rfs mf10)), (r10, .inl (τ 0, 64, .inl (ar (up rg10 0 0)))), (h0, .inr (7, [.ref c0, .ref k0, .ref p0, .ref o0, .ref f0, .ref g0, .int (iI 0), .int (iI 0), .int (iI ac0), .int (iI ec0), .int (iI stp0)]))]) hx hb hC hw 2 rfl (by decide) (by decide) (by decide) rfl dX7_weigh_33 (fun H locs hw => ?_)
  refine r_iinc (v := 1) (lv' := [(4, .int (iI 1)), (3, .int (iI 1)), (0, .ref h10), (1, .ref h0), (2, .int (iI v))]) hx hb dX7_weigh_34 hl (k := 0) rfl rfl (by decide) rfl (fun ls hl => ?_)
  refine lv_goto (tgt := 15) hx hb dX7_weigh_37 (by decide) ?_
  refine lv_iload hx hb dX7_weigh_15 (lv_at hl 0 rfl) ?_
  refine lv_iload_n hx hb dX7_weigh_17 rfl (lv_at hl 1 rfl) ?_
  refine r_icmp_ge (tgt := 40) hx hb dX7_weigh_18 (by decide) (by decide) (by decide) (fun hbr2 => ?_) (fun hbr2 => (by exfalso; omega))
  refine lv_aload_n hx hb dX7_weigh_40 rfl (lv_at hl 3 rfl) ?_
  refine gf_X7_25 hx hb hC hw 3 rfl rfl dX7_weigh_41 ?_
  refine r_iconst hx hb dX7_weigh_44 ?_
  refine r_isub (z := (-1)) hx hb dX7_weigh_45 rfl ?_
  refine lv_istore (lv' := [(4, .int (iI (-1))), (3, .int (iI 1)), (0, .ref h10), (1, .ref h0), (2, .int (iI v))]) hx hb dX7_weigh_46 hl (by decide) rfl (fun ls hl => ?_)
  refine lv_iload hx hb dX7_weigh_48 (lv_at hl 0 rfl) ?_
  refine r_if_lt (tgt := 93) hx hb dX7_weigh_50 (by decide) (by decide) (fun hbr3 => ?_) (fun hbr3 => (by exfalso; omega))
  refine lv_aload_n hx hb dX7_weigh_93 rfl (lv_at hl 2 rfl) ?_
  refine gf_X7_11 hx hb hC hw 0 rfl rfl dX7_weigh_94 ?_
  refine r_iconst hx hb dX7_weigh_97 ?_
  refine r_aaldM (n := 9) (f := mf10) (v := .ref r10) hx hb hC hw 1 rfl (by decide) (by decide) (by decide) (by rw [show (0 : Int).toNat = 0 from rfl, hp0]; rfl) dX7_weigh_98 ?_
  refine r_iconst hx hb dX7_weigh_99 ?_
  refine r_iald hx hb hC hw 2 rfl (by decide) (by decide) (by decide) dX7_weigh_100 ?_
  refine r_top (fun v4 hv4 => ?_)
  obtain rfl : 0 = v4 := (hv4.trans (up_s (by omega))).symm
  exact r_iret (z := 0) hx hb hr hlk hw [(h10, .inr (8, [.ref m10, .int (iI v)])), (m10, .inl (τ 4, 9, rfs mf10)), (r10, .inl (τ 0, 64, .inl (ar (up rg10 0 0)))), (h0, .inr (7, [.ref c0, .ref k0, .ref p0, .ref o0, .ref f0, .ref g0, .int (iI 0), .int (iI 0), .int (iI ac0), .int (iI ec0), .int (iI stp0)]))] [0, 1, 2, 3] rfl (by decide) (by decide) ⟨(up rg10 0 0), (by omega), rfl⟩ dX7_weigh_101
