abbrev W_c_Text_init (τ : Nat → ClassId) (h0 : Nat) : va_W := [(h0, .inr (10, [.null, .int (iI 0), .int (iI 0), .int (iI 0)]))]
abbrev E_c_Text_init (τ : Nat → ClassId) (h0 : Nat) : va_W → Prop := fun w => ∃ (a0 : Nat), (True) ∧ w = [(h0, .inr (10, [.ref a0, .int (iI 0), .int (iI 0), .int (iI 0)])), (a0, .inl (τ 0, 80, .inl (ar (fun _ => 0))))]
set_option maxHeartbeats 4000000 in
set_option maxRecDepth 100000 in
theorem c_Text_init (l : Launch) (D : va_G) (τ : Nat → ClassId) (sz : Nat) (h0 : Nat)  : Met l yX9_init (lw_w yX9_init cX9_init 1 none) (rmk 1 1 80) (gPc D τ (W_c_Text_init τ h0) sz [.ref h0]) (gQv D (E_c_Text_init τ h0) (va_A (W_c_Text_init τ h0) sz)) 1 80 (va_A (W_c_Text_init τ h0) sz) := by
  refine g_met (ret := none) (Qc := gQv D (E_c_Text_init τ h0)) (by decide +kernel) (Nat.le_of_ble_eq_true rfl) ?_
  intro p e s m args below meth c A ls hx hb hml hr hlk hnm hC hA hw hl
  have hC : cx D τ s m args RX9 := hC
  have hl : lv_has ls 1 [(0, .ref h0)] := hl
  have hw : wS D A s.heap [(h0, .inr (10, [.null, .int (iI 0), .int (iI 0), .int (iI 0)]))] s.heap [] := hw
  refine lv_aload_n hx hb dX9_init_0 rfl (lv_at hl 0 rfl) ?_
  refine r_objInit hx hb hml hC hl.1 ml_X9_3 im_init cd_init (by decide) (Nat.le_of_ble_eq_true rfl) (by decide) dX9_init_1 ?_
  refine lv_aload_n hx hb dX9_init_4 rfl (lv_at hl 0 rfl) ?_
  refine r_bipush hx hb dX9_init_5 (by decide +kernel) ?_
  refine r_newi (N := 80) hx hb hC hA hw ac_int (by decide) (by decide) (by decide) (by decide) rfl rfl dX9_init_7 (fun a1 H hw => ?_)
  have hw : wS D A s.heap [(h0, .inr (10, [.null, .int (iI 0), .int (iI 0), .int (iI 0)])), (a1, .inl (τ 0, 80, .inl (ar (fun _ => 0))))] H _ := hw
  refine pf_X9_9 (ws' := [(h0, .inr (10, [.ref a1, .int (iI 0), .int (iI 0), .int (iI 0)])), (a1, .inl (τ 0, 80, .inl (ar (fun _ => 0))))]) hx hb hC hw hnm 0 rfl (Nat.le_of_ble_eq_true rfl) rfl dX9_init_9 (fun H locs hw => ?_)
  refine lv_aload_n hx hb dX9_init_12 rfl (lv_at hl 0 rfl) ?_
  refine r_iconst hx hb dX9_init_13 ?_
  refine pf_X9_15 (ws' := [(h0, .inr (10, [.ref a1, .int (iI 0), .int (iI 0), .int (iI 0)])), (a1, .inl (τ 0, 80, .inl (ar (fun _ => 0))))]) hx hb hC hw 0 rfl (Nat.le_of_ble_eq_true rfl) rfl dX9_init_14 (fun H locs hw => ?_)
  refine lv_aload_n hx hb dX9_init_17 rfl (lv_at hl 0 rfl) ?_
  refine r_iconst hx hb dX9_init_18 ?_
  refine pf_X9_19 (ws' := [(h0, .inr (10, [.ref a1, .int (iI 0), .int (iI 0), .int (iI 0)])), (a1, .inl (τ 0, 80, .inl (ar (fun _ => 0))))]) hx hb hC hw 0 rfl (Nat.le_of_ble_eq_true rfl) rfl dX9_init_19 (fun H locs hw => ?_)
  refine lv_aload_n hx hb dX9_init_22 rfl (lv_at hl 0 rfl) ?_
  refine r_iconst hx hb dX9_init_23 ?_
  refine pf_X9_22 (ws' := [(h0, .inr (10, [.ref a1, .int (iI 0), .int (iI 0), .int (iI 0)])), (a1, .inl (τ 0, 80, .inl (ar (fun _ => 0))))]) hx hb hC hw 0 rfl (Nat.le_of_ble_eq_true rfl) rfl dX9_init_24 (fun H locs hw => ?_)
  exact r_vret hx hb hr hlk hw [(h0, .inr (10, [.ref a1, .int (iI 0), .int (iI 0), .int (iI 0)])), (a1, .inl (τ 0, 80, .inl (ar (fun _ => 0))))] [0, 1] rfl (by decide) ⟨a1, trivial, rfl⟩ dX9_init_27
abbrev W_c_Text_addFour (τ : Nat → ClassId) (h0 : Nat) (a0 : Nat) (len : Int) (at0 : Int) (stop : Int) (sg : Int → Int) (v : Int) : va_W := [(h0, .inr (10, [.ref a0, .int (iI len), .int (iI at0), .int (iI stop)])), (a0, .inl (τ 0, 80, .inl (ar sg)))]
abbrev E_c_Text_addFour (τ : Nat → ClassId) (h0 : Nat) (a0 : Nat) (len : Int) (at0 : Int) (stop : Int) (sg : Int → Int) (v : Int) : Int → va_W → Prop := fun z w => ∃ (len2 : Int), ∃ (sg2 : Int → Int), ((z = 0 ∧ len > 76 ∧ len2 = len) ∨ (z = 1 ∧ len ≤ 76 ∧ len2 = len + 4)) ∧ w = [(h0, .inr (10, [.ref a0, .int (iI len2), .int (iI at0), .int (iI stop)])), (a0, .inl (τ 0, 80, .inl (ar sg2)))]
set_option maxHeartbeats 4000000 in
set_option maxRecDepth 100000 in
theorem c_Text_addFour (l : Launch) (D : va_G) (τ : Nat → ClassId) (sz : Nat) (h0 : Nat) (a0 : Nat) (len : Int) (at0 : Int) (stop : Int) (sg : Int → Int) (v : Int) (hp0 : iR v) (hp1 : 0 ≤ len ∧ len ≤ 80) : Met l yX9_addFour (lw_w yX9_addFour cX9_addFour 3 (some .boolean)) (rmk 1 0 0) (gPc D τ (W_c_Text_addFour τ h0 a0 len at0 stop sg v) sz [.ref h0, .int (iI v)]) (gQi D (E_c_Text_addFour τ h0 a0 len at0 stop sg v) (va_A (W_c_Text_addFour τ h0 a0 len at0 stop sg v) sz)) 0 0 (va_A (W_c_Text_addFour τ h0 a0 len at0 stop sg v) sz) := by
  refine g_met (ret := (some .boolean)) (Qc := gQi D (E_c_Text_addFour τ h0 a0 len at0 stop sg v)) (by decide +kernel) (Nat.le_of_ble_eq_true rfl) ?_
  intro p e s m args below meth c A ls hx hb hml hr hlk hnm hC hA hw hl
  have hC : cx D τ s m args RX9 := hC
  have hl : lv_has ls 3 [(0, .ref h0), (1, .int (iI v))] := hl
  have hw : wS D A s.heap [(h0, .inr (10, [.ref a0, .int (iI len), .int (iI at0), .int (iI stop)])), (a0, .inl (τ 0, 80, .inl (ar sg)))] s.heap [] := hw
  refine lv_aload_n hx hb dX9_addFour_0 rfl (lv_at hl 0 rfl) ?_
  refine gf_X9_15 hx hb hC hw 0 rfl rfl dX9_addFour_1 ?_
  refine r_iconst hx hb dX9_addFour_4 ?_
  refine r_iadd (z := (len + 4)) hx hb dX9_addFour_5 (by omega) ?_
  refine r_bipush hx hb dX9_addFour_6 (by decide +kernel) ?_
  refine r_icmp_le (tgt := 13) hx hb dX9_addFour_8 (by decide) (by omega) (by decide) (fun hbr1 => ?_) (fun hbr1 => ?_)
  · skip
    refine r_bipush hx hb dX9_addFour_13 (by decide +kernel) ?_
    refine lv_istore_n (lv' := [(2, .int (iI 24)), (0, .ref h0), (1, .int (iI v))]) hx hb dX9_addFour_15 rfl hl (by decide) rfl (fun ls hl => ?_)
    have L16 : ∀ (n : Nat) (sh : Int) (len1 : Int) (sg1 : Int → Int) (H : Heap) (locs : List Loc) (ls : Array Slot), (len ≤ 76) → ((sh = 24 ∧ len1 = len) ∨ (sh = 16 ∧ len1 = len + 1) ∨ (sh = 8 ∧ len1 = len + 2) ∨ (sh = 0 ∧ len1 = len + 3) ∨ (sh = -8 ∧ len1 = len + 4)) → ((sh + 8).toNat < n) → wS D A s.heap [(h0, .inr (10, [.ref a0, .int (iI len1), .int (iI at0), .int (iI stop)])), (a0, .inl (τ 0, 80, .inl (ar sg1)))] H locs → lv_has ls 3 [(0, .ref h0), (1, .int (iI v)), (2, .int (iI sh))] → W p l e (rmk 1 0 0) s m args below meth c H locs 0 0 (MQ below (gQi D (E_c_Text_addFour τ h0 a0 len at0 stop sg v) A) args s 0 0 A) (F0 m 16 ls []) := by
      intro n16
      induction n16 with
      | zero => intro sh len1 sg1 H locs ls hi16_0 hi16_1 hm16; exact absurd hm16 (Nat.not_lt_zero _)
      | succ n16 ih16 =>
        intro sh len1 sg1 H locs ls hi16_0 hi16_1 hm16 hw hl
        refine lv_iload_n hx hb dX9_addFour_16 rfl (lv_at hl 2 rfl) ?_
        refine r_if_lt (tgt := 52) hx hb dX9_addFour_17 (by decide) (by omega) (fun hbr2 => ?_) (fun hbr2 => ?_)
        · skip
          refine r_iconst hx hb dX9_addFour_52 ?_
          exact r_zret (z := 1) hx hb hr hlk hw [(h0, .inr (10, [.ref a0, .int (iI len1), .int (iI at0), .int (iI stop)])), (a0, .inl (τ 0, 80, .inl (ar sg1)))] [0, 1] rfl (by decide) (by decide) (by decide) ⟨len1, sg1, (by omega), rfl⟩ dX9_addFour_53
        · skip
          refine lv_aload_n hx hb dX9_addFour_20 rfl (lv_at hl 0 rfl) ?_
          refine gf_X9_9 hx hb hC hw 0 rfl rfl dX9_addFour_21 ?_
          refine lv_aload_n hx hb dX9_addFour_24 rfl (lv_at hl 0 rfl) ?_
          refine gf_X9_15 hx hb hC hw 0 rfl rfl dX9_addFour_25 ?_
          refine lv_iload_n hx hb dX9_addFour_28 rfl (lv_at hl 1 rfl) ?_
          refine lv_iload_n hx hb dX9_addFour_29 rfl (lv_at hl 2 rfl) ?_
          refine r_iushr hx hb dX9_addFour_30 (fun z3 hz3 hv3 => ?_)
          refine r_sipush hx hb dX9_addFour_31 (by decide +kernel) ?_
          refine r_iand hx hb dX9_addFour_34 (fun z4 hz4 hv4 => ?_)
          refine r_iast (ws' := [(h0, .inr (10, [.ref a0, .int (iI len1), .int (iI at0), .int (iI stop)])), (a0, .inl (τ 0, 80, .inl (ar (up sg1 len1 z4))))]) hx hb hC hw 1 rfl (by omega) (by omega) (by decide) rfl dX9_addFour_35 (fun H locs hw => ?_)
          refine lv_aload_n hx hb dX9_addFour_36 rfl (lv_at hl 0 rfl) ?_
          refine lv_dup hx hb dX9_addFour_37 rfl ?_
          refine gf_X9_15 hx hb hC hw 0 rfl rfl dX9_addFour_38 ?_
          refine r_iconst hx hb dX9_addFour_41 ?_
          refine r_iadd (z := (len1 + 1)) hx hb dX9_addFour_42 (by omega) ?_
          refine pf_X9_15 (ws' := [(h0, .inr (10, [.ref a0, .int (iI (len1 + 1)), .int (iI at0), .int (iI stop)])), (a0, .inl (τ 0, 80, .inl (ar (up sg1 len1 z4))))]) hx hb hC hw 0 rfl (Nat.le_of_ble_eq_true rfl) rfl dX9_addFour_43 (fun H locs hw => ?_)
          refine r_iinc (v := (sh - 8)) (lv' := [(2, .int (iI (sh - 8))), (0, .ref h0), (1, .int (iI v))]) hx hb dX9_addFour_46 hl (k := 2) rfl (by omega) (by decide) rfl (fun ls hl => ?_)
          refine lv_goto (tgt := 16) hx hb dX9_addFour_49 (by decide) ?_
          exact ih16 (sh - 8) (len1 + 1) (up sg1 len1 z4) _ _ _ (by omega) (by omega) (by omega) hw (lv_sub hl [1, 2, 0] rfl)
    exact L16 (_ + 1) 24 len sg _ _ _ (by omega) (by omega) (Nat.lt_succ_self _) hw (lv_sub hl [1, 2, 0] rfl)
  · skip
    refine r_iconst hx hb dX9_addFour_11 ?_
    exact r_zret (z := 0) hx hb hr hlk hw [(h0, .inr (10, [.ref a0, .int (iI len), .int (iI at0), .int (iI stop)])), (a0, .inl (τ 0, 80, .inl (ar sg)))] [0, 1] rfl (by decide) (by decide) (by decide) ⟨len, sg, (by omega), rfl⟩ dX9_addFour_12
abbrev W_c_Text_cutTo (τ : Nat → ClassId) (h0 : Nat) (a0 : Nat) (len : Int) (at0 : Int) (stop : Int) (sg : Int → Int) (v : Int) : va_W := [(h0, .inr (10, [.ref a0, .int (iI len), .int (iI at0), .int (iI stop)])), (a0, .inl (τ 0, 80, .inl (ar sg)))]
abbrev E_c_Text_cutTo (τ : Nat → ClassId) (h0 : Nat) (a0 : Nat) (len : Int) (at0 : Int) (stop : Int) (sg : Int → Int) (v : Int) : Int → va_W → Prop := fun z w => ∃ (len2 : Int), ((z = 0 ∧ (v < 0 ∨ len < v) ∧ len2 = len) ∨ (z = 1 ∧ 0 ≤ v ∧ v ≤ len ∧ len2 = v)) ∧ w = [(h0, .inr (10, [.ref a0, .int (iI len2), .int (iI at0), .int (iI stop)])), (a0, .inl (τ 0, 80, .inl (ar sg)))]
set_option maxHeartbeats 4000000 in
set_option maxRecDepth 100000 in
theorem c_Text_cutTo (l : Launch) (D : va_G) (τ : Nat → ClassId) (sz : Nat) (h0 : Nat) (a0 : Nat) (len : Int) (at0 : Int) (stop : Int) (sg : Int → Int) (v : Int) (hp0 : iR v) (hp1 : 0 ≤ len ∧ len ≤ 80) : Met l yX9_cutTo (lw_w yX9_cutTo cX9_cutTo 2 (some .boolean)) (rmk 1 0 0) (gPc D τ (W_c_Text_cutTo τ h0 a0 len at0 stop sg v) sz [.ref h0, .int (iI v)]) (gQi D (E_c_Text_cutTo τ h0 a0 len at0 stop sg v) (va_A (W_c_Text_cutTo τ h0 a0 len at0 stop sg v) sz)) 0 0 (va_A (W_c_Text_cutTo τ h0 a0 len at0 stop sg v) sz) := by
  refine g_met (ret := (some .boolean)) (Qc := gQi D (E_c_Text_cutTo τ h0 a0 len at0 stop sg v)) (by decide +kernel) (Nat.le_of_ble_eq_true rfl) ?_
  intro p e s m args below meth c A ls hx hb hml hr hlk hnm hC hA hw hl
  have hC : cx D τ s m args RX9 := hC
  have hl : lv_has ls 2 [(0, .ref h0), (1, .int (iI v))] := hl
  have hw : wS D A s.heap [(h0, .inr (10, [.ref a0, .int (iI len), .int (iI at0), .int (iI stop)])), (a0, .inl (τ 0, 80, .inl (ar sg)))] s.heap [] := hw
  refine lv_iload_n hx hb dX9_cutTo_0 rfl (lv_at hl 1 rfl) ?_
  refine r_if_lt (tgt := 12) hx hb dX9_cutTo_1 (by decide) (by omega) (fun hbr1 => ?_) (fun hbr1 => ?_)
  · skip
    refine r_iconst hx hb dX9_cutTo_12 ?_
    exact r_zret (z := 0) hx hb hr hlk hw [(h0, .inr (10, [.ref a0, .int (iI len), .int (iI at0), .int (iI stop)])), (a0, .inl (τ 0, 80, .inl (ar sg)))] [0, 1] rfl (by decide) (by decide) (by decide) ⟨len, (by omega), rfl⟩ dX9_cutTo_13
  · skip
    refine lv_iload_n hx hb dX9_cutTo_4 rfl (lv_at hl 1 rfl) ?_
    refine lv_aload_n hx hb dX9_cutTo_5 rfl (lv_at hl 0 rfl) ?_
    refine gf_X9_15 hx hb hC hw 0 rfl rfl dX9_cutTo_6 ?_
    refine r_icmp_le (tgt := 14) hx hb dX9_cutTo_9 (by decide) (by omega) (by omega) (fun hbr2 => ?_) (fun hbr2 => ?_)
    · skip
      refine lv_aload_n hx hb dX9_cutTo_14 rfl (lv_at hl 0 rfl) ?_
      refine lv_iload_n hx hb dX9_cutTo_15 rfl (lv_at hl 1 rfl) ?_
      refine pf_X9_15 (ws' := [(h0, .inr (10, [.ref a0, .int (iI v), .int (iI at0), .int (iI stop)])), (a0, .inl (τ 0, 80, .inl (ar sg)))]) hx hb hC hw 0 rfl (Nat.le_of_ble_eq_true rfl) rfl dX9_cutTo_16 (fun H locs hw => ?_)
      refine r_iconst hx hb dX9_cutTo_19 ?_
      exact r_zret (z := 1) hx hb hr hlk hw [(h0, .inr (10, [.ref a0, .int (iI v), .int (iI at0), .int (iI stop)])), (a0, .inl (τ 0, 80, .inl (ar sg)))] [0, 1] rfl (by decide) (by decide) (by decide) ⟨v, (by omega), rfl⟩ dX9_cutTo_20
    · skip
      refine r_iconst hx hb dX9_cutTo_12 ?_
      exact r_zret (z := 0) hx hb hr hlk hw [(h0, .inr (10, [.ref a0, .int (iI len), .int (iI at0), .int (iI stop)])), (a0, .inl (τ 0, 80, .inl (ar sg)))] [0, 1] rfl (by decide) (by decide) (by decide) ⟨len, (by omega), rfl⟩ dX9_cutTo_13
abbrev W_c_Text_clear (τ : Nat → ClassId) (h0 : Nat) (a0 : Nat) (len : Int) (at0 : Int) (stop : Int) : va_W := [(h0, .inr (10, [.ref a0, .int (iI len), .int (iI at0), .int (iI stop)]))]
abbrev E_c_Text_clear (τ : Nat → ClassId) (h0 : Nat) (a0 : Nat) (len : Int) (at0 : Int) (stop : Int) : va_W → Prop := fun w => (True) ∧ w = [(h0, .inr (10, [.ref a0, .int (iI 0), .int (iI at0), .int (iI stop)]))]
set_option maxHeartbeats 4000000 in
set_option maxRecDepth 100000 in
theorem c_Text_clear (l : Launch) (D : va_G) (τ : Nat → ClassId) (sz : Nat) (h0 : Nat) (a0 : Nat) (len : Int) (at0 : Int) (stop : Int)  : Met l yX9_clear (lw_w yX9_clear cX9_clear 1 none) (rmk 1 0 0) (gPc D τ (W_c_Text_clear τ h0 a0 len at0 stop) sz [.ref h0]) (gQv D (E_c_Text_clear τ h0 a0 len at0 stop) (va_A (W_c_Text_clear τ h0 a0 len at0 stop) sz)) 0 0 (va_A (W_c_Text_clear τ h0 a0 len at0 stop) sz) := by
  refine g_met (ret := none) (Qc := gQv D (E_c_Text_clear τ h0 a0 len at0 stop)) (by decide +kernel) (Nat.le_of_ble_eq_true rfl) ?_
  intro p e s m args below meth c A ls hx hb hml hr hlk hnm hC hA hw hl
  have hC : cx D τ s m args RX9 := hC
  have hl : lv_has ls 1 [(0, .ref h0)] := hl
  have hw : wS D A s.heap [(h0, .inr (10, [.ref a0, .int (iI len), .int (iI at0), .int (iI stop)]))] s.heap [] := hw
  refine lv_aload_n hx hb dX9_clear_0 rfl (lv_at hl 0 rfl) ?_
  refine r_iconst hx hb dX9_clear_1 ?_
  refine pf_X9_15 (ws' := [(h0, .inr (10, [.ref a0, .int (iI 0), .int (iI at0), .int (iI stop)]))]) hx hb hC hw 0 rfl (Nat.le_of_ble_eq_true rfl) rfl dX9_clear_2 (fun H locs hw => ?_)
  exact r_vret hx hb hr hlk hw [(h0, .inr (10, [.ref a0, .int (iI 0), .int (iI at0), .int (iI stop)]))] [0] rfl (by decide) ⟨trivial, rfl⟩ dX9_clear_5
abbrev W_c_Text_isEmpty (τ : Nat → ClassId) (h0 : Nat) (a0 : Nat) (len : Int) (at0 : Int) (stop : Int) : va_W := [(h0, .inr (10, [.ref a0, .int (iI len), .int (iI at0), .int (iI stop)]))]
abbrev E_c_Text_isEmpty (τ : Nat → ClassId) (h0 : Nat) (a0 : Nat) (len : Int) (at0 : Int) (stop : Int) : Int → va_W → Prop := fun z w => ((z = 1 ∧ len = 0) ∨ (z = 0 ∧ len ≠ 0)) ∧ w = [(h0, .inr (10, [.ref a0, .int (iI len), .int (iI at0), .int (iI stop)]))]
set_option maxHeartbeats 4000000 in
set_option maxRecDepth 100000 in
theorem c_Text_isEmpty (l : Launch) (D : va_G) (τ : Nat → ClassId) (sz : Nat) (h0 : Nat) (a0 : Nat) (len : Int) (at0 : Int) (stop : Int) (hp0 : 0 ≤ len ∧ len ≤ 80) : Met l yX9_isEmpty (lw_w yX9_isEmpty cX9_isEmpty 1 (some .boolean)) (rmk 1 0 0) (gPc D τ (W_c_Text_isEmpty τ h0 a0 len at0 stop) sz [.ref h0]) (gQi D (E_c_Text_isEmpty τ h0 a0 len at0 stop) (va_A (W_c_Text_isEmpty τ h0 a0 len at0 stop) sz)) 0 0 (va_A (W_c_Text_isEmpty τ h0 a0 len at0 stop) sz) := by
  refine g_met (ret := (some .boolean)) (Qc := gQi D (E_c_Text_isEmpty τ h0 a0 len at0 stop)) (by decide +kernel) (Nat.le_of_ble_eq_true rfl) ?_
  intro p e s m args below meth c A ls hx hb hml hr hlk hnm hC hA hw hl
  have hC : cx D τ s m args RX9 := hC
  have hl : lv_has ls 1 [(0, .ref h0)] := hl
  have hw : wS D A s.heap [(h0, .inr (10, [.ref a0, .int (iI len), .int (iI at0), .int (iI stop)]))] s.heap [] := hw
  refine lv_aload_n hx hb dX9_isEmpty_0 rfl (lv_at hl 0 rfl) ?_
  refine gf_X9_15 hx hb hC hw 0 rfl rfl dX9_isEmpty_1 ?_
  refine r_if_ne (tgt := 11) hx hb dX9_isEmpty_4 (by decide) (by omega) (fun hbr1 => ?_) (fun hbr1 => ?_)
  · skip
    refine r_iconst hx hb dX9_isEmpty_11 ?_
    exact r_zret (z := 0) hx hb hr hlk hw [(h0, .inr (10, [.ref a0, .int (iI len), .int (iI at0), .int (iI stop)]))] [0] rfl (by decide) (by decide) (by decide) ⟨(by omega), rfl⟩ dX9_isEmpty_12
  · skip
    refine r_iconst hx hb dX9_isEmpty_7 ?_
    refine lv_goto (tgt := 12) hx hb dX9_isEmpty_8 (by decide) ?_
    exact r_zret (z := 1) hx hb hr hlk hw [(h0, .inr (10, [.ref a0, .int (iI len), .int (iI at0), .int (iI stop)]))] [0] rfl (by decide) (by decide) (by decide) ⟨(by omega), rfl⟩ dX9_isEmpty_12
abbrev W_c_Text_open (τ : Nat → ClassId) (h0 : Nat) (a0 : Nat) (len : Int) (at0 : Int) (stop : Int) (lim : Int) : va_W := [(h0, .inr (10, [.ref a0, .int (iI len), .int (iI at0), .int (iI stop)]))]
abbrev E_c_Text_open (τ : Nat → ClassId) (h0 : Nat) (a0 : Nat) (len : Int) (at0 : Int) (stop : Int) (lim : Int) : va_W → Prop := fun w => ∃ (st2 : Int), ((st2 = len ∧ len ≤ lim) ∨ (st2 = lim ∧ lim ≤ len)) ∧ w = [(h0, .inr (10, [.ref a0, .int (iI len), .int (iI 0), .int (iI st2)]))]
set_option maxHeartbeats 4000000 in
set_option maxRecDepth 100000 in
theorem c_Text_open (l : Launch) (D : va_G) (τ : Nat → ClassId) (sz : Nat) (h0 : Nat) (a0 : Nat) (len : Int) (at0 : Int) (stop : Int) (lim : Int) (hp0 : 0 ≤ len ∧ len ≤ 80) (hp1 : iR lim) : Met l yX9_open (lw_w yX9_open cX9_open 2 none) (rmk 2 0 0) (gPc D τ (W_c_Text_open τ h0 a0 len at0 stop lim) sz [.ref h0, .int (iI lim)]) (gQv D (E_c_Text_open τ h0 a0 len at0 stop lim) (va_A (W_c_Text_open τ h0 a0 len at0 stop lim) sz)) 0 0 (va_A (W_c_Text_open τ h0 a0 len at0 stop lim) sz) := by
  refine g_met (ret := none) (Qc := gQv D (E_c_Text_open τ h0 a0 len at0 stop lim)) (by decide +kernel) (Nat.le_of_ble_eq_true rfl) ?_
  intro p e s m args below meth c A ls hx hb hml hr hlk hnm hC hA hw hl
  have hC : cx D τ s m args RX9 := hC
  have hl : lv_has ls 2 [(0, .ref h0), (1, .int (iI lim))] := hl
  have hw : wS D A s.heap [(h0, .inr (10, [.ref a0, .int (iI len), .int (iI at0), .int (iI stop)]))] s.heap [] := hw
  refine lv_aload_n hx hb dX9_open_0 rfl (lv_at hl 0 rfl) ?_
  refine r_iconst hx hb dX9_open_1 ?_
  refine pf_X9_19 (ws' := [(h0, .inr (10, [.ref a0, .int (iI len), .int (iI 0), .int (iI stop)]))]) hx hb hC hw 0 rfl (Nat.le_of_ble_eq_true rfl) rfl dX9_open_2 (fun H locs hw => ?_)
  refine lv_aload_n hx hb dX9_open_5 rfl (lv_at hl 0 rfl) ?_
  refine lv_aload_n hx hb dX9_open_6 rfl (lv_at hl 0 rfl) ?_
  refine gf_X9_15 hx hb hC hw 0 rfl rfl dX9_open_7 ?_
  refine lv_iload_n hx hb dX9_open_10 rfl (lv_at hl 1 rfl) ?_
  refine r_mmin hx hb hml hC hl.1 ml_X9_25 sm_min in_J9 cd_min (by decide) (Nat.le_of_ble_eq_true rfl) (by decide) (by decide) (by omega) (by omega) dX9_open_11 (fun z1 hv1 => ?_)
  refine pf_X9_22 (ws' := [(h0, .inr (10, [.ref a0, .int (iI len), .int (iI 0), .int (iI z1)]))]) hx hb hC hw 0 rfl (Nat.le_of_ble_eq_true rfl) rfl dX9_open_14 (fun H locs hw => ?_)
  exact r_vret hx hb hr hlk hw [(h0, .inr (10, [.ref a0, .int (iI len), .int (iI 0), .int (iI z1)]))] [0] rfl (by decide) ⟨z1, (by omega), rfl⟩ dX9_open_17
abbrev W_c_Text_isRead (τ : Nat → ClassId) (h0 : Nat) (a0 : Nat) (len : Int) (at0 : Int) (stop : Int) : va_W := [(h0, .inr (10, [.ref a0, .int (iI len), .int (iI at0), .int (iI stop)]))]
abbrev E_c_Text_isRead (τ : Nat → ClassId) (h0 : Nat) (a0 : Nat) (len : Int) (at0 : Int) (stop : Int) : Int → va_W → Prop := fun z w => ((z = 1 ∧ stop ≤ at0) ∨ (z = 0 ∧ at0 < stop)) ∧ w = [(h0, .inr (10, [.ref a0, .int (iI len), .int (iI at0), .int (iI stop)]))]
set_option maxHeartbeats 4000000 in
set_option maxRecDepth 100000 in
theorem c_Text_isRead (l : Launch) (D : va_G) (τ : Nat → ClassId) (sz : Nat) (h0 : Nat) (a0 : Nat) (len : Int) (at0 : Int) (stop : Int) (hp0 : iR at0) (hp1 : iR stop) : Met l yX9_isRead (lw_w yX9_isRead cX9_isRead 1 (some .boolean)) (rmk 1 0 0) (gPc D τ (W_c_Text_isRead τ h0 a0 len at0 stop) sz [.ref h0]) (gQi D (E_c_Text_isRead τ h0 a0 len at0 stop) (va_A (W_c_Text_isRead τ h0 a0 len at0 stop) sz)) 0 0 (va_A (W_c_Text_isRead τ h0 a0 len at0 stop) sz) := by
  refine g_met (ret := (some .boolean)) (Qc := gQi D (E_c_Text_isRead τ h0 a0 len at0 stop)) (by decide +kernel) (Nat.le_of_ble_eq_true rfl) ?_
  intro p e s m args below meth c A ls hx hb hml hr hlk hnm hC hA hw hl
  have hC : cx D τ s m args RX9 := hC
  have hl : lv_has ls 1 [(0, .ref h0)] := hl
  have hw : wS D A s.heap [(h0, .inr (10, [.ref a0, .int (iI len), .int (iI at0), .int (iI stop)]))] s.heap [] := hw
  refine lv_aload_n hx hb dX9_isRead_0 rfl (lv_at hl 0 rfl) ?_
  refine gf_X9_19 hx hb hC hw 0 rfl rfl dX9_isRead_1 ?_
  refine lv_aload_n hx hb dX9_isRead_4 rfl (lv_at hl 0 rfl) ?_
  refine gf_X9_22 hx hb hC hw 0 rfl rfl dX9_isRead_5 ?_
  refine r_icmp_lt (tgt := 15) hx hb dX9_isRead_8 (by decide) (by omega) (by omega) (fun hbr1 => ?_) (fun hbr1 => ?_)
  · skip
    refine r_iconst hx hb dX9_isRead_15 ?_
    exact r_zret (z := 0) hx hb hr hlk hw [(h0, .inr (10, [.ref a0, .int (iI len), .int (iI at0), .int (iI stop)]))] [0] rfl (by decide) (by decide) (by decide) ⟨(by omega), rfl⟩ dX9_isRead_16
  · skip
    refine r_iconst hx hb dX9_isRead_11 ?_
    refine lv_goto (tgt := 16) hx hb dX9_isRead_12 (by decide) ?_
    exact r_zret (z := 1) hx hb hr hlk hw [(h0, .inr (10, [.ref a0, .int (iI len), .int (iI at0), .int (iI stop)]))] [0] rfl (by decide) (by decide) (by decide) ⟨(by omega), rfl⟩ dX9_isRead_16
abbrev W_c_Text_isWhole (τ : Nat → ClassId) (h0 : Nat) (a0 : Nat) (len : Int) (at0 : Int) (stop : Int) : va_W := [(h0, .inr (10, [.ref a0, .int (iI len), .int (iI at0), .int (iI stop)]))]
abbrev E_c_Text_isWhole (τ : Nat → ClassId) (h0 : Nat) (a0 : Nat) (len : Int) (at0 : Int) (stop : Int) : Int → va_W → Prop := fun z w => ((z = 1 ∧ len ≤ at0) ∨ (z = 0 ∧ at0 < len)) ∧ w = [(h0, .inr (10, [.ref a0, .int (iI len), .int (iI at0), .int (iI stop)]))]
set_option maxHeartbeats 4000000 in
set_option maxRecDepth 100000 in
theorem c_Text_isWhole (l : Launch) (D : va_G) (τ : Nat → ClassId) (sz : Nat) (h0 : Nat) (a0 : Nat) (len : Int) (at0 : Int) (stop : Int) (hp0 : iR at0) (hp1 : iR len) : Met l yX9_isWhole (lw_w yX9_isWhole cX9_isWhole 1 (some .boolean)) (rmk 1 0 0) (gPc D τ (W_c_Text_isWhole τ h0 a0 len at0 stop) sz [.ref h0]) (gQi D (E_c_Text_isWhole τ h0 a0 len at0 stop) (va_A (W_c_Text_isWhole τ h0 a0 len at0 stop) sz)) 0 0 (va_A (W_c_Text_isWhole τ h0 a0 len at0 stop) sz) := by
  refine g_met (ret := (some .boolean)) (Qc := gQi D (E_c_Text_isWhole τ h0 a0 len at0 stop)) (by decide +kernel) (Nat.le_of_ble_eq_true rfl) ?_
  intro p e s m args below meth c A ls hx hb hml hr hlk hnm hC hA hw hl
  have hC : cx D τ s m args RX9 := hC
  have hl : lv_has ls 1 [(0, .ref h0)] := hl
  have hw : wS D A s.heap [(h0, .inr (10, [.ref a0, .int (iI len), .int (iI at0), .int (iI stop)]))] s.heap [] := hw
  refine lv_aload_n hx hb dX9_isWhole_0 rfl (lv_at hl 0 rfl) ?_
  refine gf_X9_19 hx hb hC hw 0 rfl rfl dX9_isWhole_1 ?_
  refine lv_aload_n hx hb dX9_isWhole_4 rfl (lv_at hl 0 rfl) ?_
  refine gf_X9_15 hx hb hC hw 0 rfl rfl dX9_isWhole_5 ?_
  refine r_icmp_lt (tgt := 15) hx hb dX9_isWhole_8 (by decide) (by omega) (by omega) (fun hbr1 => ?_) (fun hbr1 => ?_)
  · skip
    refine r_iconst hx hb dX9_isWhole_15 ?_
    exact r_zret (z := 0) hx hb hr hlk hw [(h0, .inr (10, [.ref a0, .int (iI len), .int (iI at0), .int (iI stop)]))] [0] rfl (by decide) (by decide) (by decide) ⟨(by omega), rfl⟩ dX9_isWhole_16
  · skip
    refine r_iconst hx hb dX9_isWhole_11 ?_
    refine lv_goto (tgt := 16) hx hb dX9_isWhole_12 (by decide) ?_
    exact r_zret (z := 1) hx hb hr hlk hw [(h0, .inr (10, [.ref a0, .int (iI len), .int (iI at0), .int (iI stop)]))] [0] rfl (by decide) (by decide) (by decide) ⟨(by omega), rfl⟩ dX9_isWhole_16
abbrev W_c_Row_init (τ : Nat → ClassId) (h0 : Nat) : va_W := [(h0, .inr (5, [.null, .int (iI 0)]))]
abbrev E_c_Row_init (τ : Nat → ClassId) (h0 : Nat) : va_W → Prop := fun w => ∃ (a0 : Nat), (True) ∧ w = [(h0, .inr (5, [.ref a0, .int (iI 0)])), (a0, .inl (τ 1, 8, .inr (.inl (arL (fun _ => 0)))))]
set_option maxHeartbeats 4000000 in
set_option maxRecDepth 100000 in
theorem c_Row_init (l : Launch) (D : va_G) (τ : Nat → ClassId) (sz : Nat) (h0 : Nat)  : Met l yX4_init (lw_w yX4_init cX4_init 1 none) (rmk 1 1 8) (gPc D τ (W_c_Row_init τ h0) sz [.ref h0]) (gQv D (E_c_Row_init τ h0) (va_A (W_c_Row_init τ h0) sz)) 1 8 (va_A (W_c_Row_init τ h0) sz) := by
  refine g_met (ret := none) (Qc := gQv D (E_c_Row_init τ h0)) (by decide +kernel) (Nat.le_of_ble_eq_true rfl) ?_
  intro p e s m args below meth c A ls hx hb hml hr hlk hnm hC hA hw hl
  have hC : cx D τ s m args RX4 := hC
  have hl : lv_has ls 1 [(0, .ref h0)] := hl
  have hw : wS D A s.heap [(h0, .inr (5, [.null, .int (iI 0)]))] s.heap [] := hw
  refine lv_aload_n hx hb dX4_init_0 rfl (lv_at hl 0 rfl) ?_
  refine r_objInit hx hb hml hC hl.1 ml_X4_3 im_init cd_init (by decide) (Nat.le_of_ble_eq_true rfl) (by decide) dX4_init_1 ?_
  refine lv_aload_n hx hb dX4_init_4 rfl (lv_at hl 0 rfl) ?_
  refine r_bipush hx hb dX4_init_5 (by decide +kernel) ?_
  refine r_newl (N := 8) hx hb hC hA hw ac_long (by decide) (by decide) (by decide) (by decide) rfl rfl dX4_init_7 (fun a1 H hw => ?_)
  have hw : wS D A s.heap [(h0, .inr (5, [.null, .int (iI 0)])), (a1, .inl (τ 1, 8, .inr (.inl (arL (fun _ => 0)))))] H _ := hw
  refine pf_X4_9 (ws' := [(h0, .inr (5, [.ref a1, .int (iI 0)])), (a1, .inl (τ 1, 8, .inr (.inl (arL (fun _ => 0)))))]) hx hb hC hw hnm 0 rfl (Nat.le_of_ble_eq_true rfl) rfl dX4_init_9 (fun H locs hw => ?_)
  refine lv_aload_n hx hb dX4_init_12 rfl (lv_at hl 0 rfl) ?_
  refine r_iconst hx hb dX4_init_13 ?_
  refine pf_X4_15 (ws' := [(h0, .inr (5, [.ref a1, .int (iI 0)])), (a1, .inl (τ 1, 8, .inr (.inl (arL (fun _ => 0)))))]) hx hb hC hw 0 rfl (Nat.le_of_ble_eq_true rfl) rfl dX4_init_14 (fun H locs hw => ?_)
  exact r_vret hx hb hr hlk hw [(h0, .inr (5, [.ref a1, .int (iI 0)])), (a1, .inl (τ 1, 8, .inr (.inl (arL (fun _ => 0)))))] [0, 1] rfl (by decide) ⟨a1, trivial, rfl⟩ dX4_init_17
abbrev W_c_Row_clear (τ : Nat → ClassId) (h0 : Nat) (a0 : Nat) (sz0 : Int) : va_W := [(h0, .inr (5, [.ref a0, .int (iI sz0)]))]
abbrev E_c_Row_clear (τ : Nat → ClassId) (h0 : Nat) (a0 : Nat) (sz0 : Int) : va_W → Prop := fun w => (True) ∧ w = [(h0, .inr (5, [.ref a0, .int (iI 0)]))]
set_option maxHeartbeats 4000000 in
set_option maxRecDepth 100000 in
theorem c_Row_clear (l : Launch) (D : va_G) (τ : Nat → ClassId) (sz : Nat) (h0 : Nat) (a0 : Nat) (sz0 : Int)  : Met l yX4_clear (lw_w yX4_clear cX4_clear 1 none) (rmk 1 0 0) (gPc D τ (W_c_Row_clear τ h0 a0 sz0) sz [.ref h0]) (gQv D (E_c_Row_clear τ h0 a0 sz0) (va_A (W_c_Row_clear τ h0 a0 sz0) sz)) 0 0 (va_A (W_c_Row_clear τ h0 a0 sz0) sz) := by
  refine g_met (ret := none) (Qc := gQv D (E_c_Row_clear τ h0 a0 sz0)) (by decide +kernel) (Nat.le_of_ble_eq_true rfl) ?_
  intro p e s m args below meth c A ls hx hb hml hr hlk hnm hC hA hw hl
  have hC : cx D τ s m args RX4 := hC
  have hl : lv_has ls 1 [(0, .ref h0)] := hl
  have hw : wS D A s.heap [(h0, .inr (5, [.ref a0, .int (iI sz0)]))] s.heap [] := hw
  refine lv_aload_n hx hb dX4_clear_0 rfl (lv_at hl 0 rfl) ?_
  refine r_iconst hx hb dX4_clear_1 ?_
  refine pf_X4_15 (ws' := [(h0, .inr (5, [.ref a0, .int (iI 0)]))]) hx hb hC hw 0 rfl (Nat.le_of_ble_eq_true rfl) rfl dX4_clear_2 (fun H locs hw => ?_)
  exact r_vret hx hb hr hlk hw [(h0, .inr (5, [.ref a0, .int (iI 0)]))] [0] rfl (by decide) ⟨trivial, rfl⟩ dX4_clear_5
abbrev W_c_Row_add (τ : Nat → ClassId) (h0 : Nat) (a0 : Nat) (sz0 : Int) (nu : Int → Int) (v : Int) : va_W := [(h0, .inr (5, [.ref a0, .int (iI sz0)])), (a0, .inl (τ 1, 8, .inr (.inl (arL nu))))]
abbrev E_c_Row_add (τ : Nat → ClassId) (h0 : Nat) (a0 : Nat) (sz0 : Int) (nu : Int → Int) (v : Int) : va_W → Prop := fun w => ∃ (sz2 : Int), ∃ (nu2 : Int → Int), ((sz0 < 8 ∧ sz2 = sz0 + 1) ∨ (8 ≤ sz0 ∧ sz2 = sz0)) ∧ w = [(h0, .inr (5, [.ref a0, .int (iI sz2)])), (a0, .inl (τ 1, 8, .inr (.inl (arL nu2))))]
set_option maxHeartbeats 4000000 in
set_option maxRecDepth 100000 in
theorem c_Row_add (l : Launch) (D : va_G) (τ : Nat → ClassId) (sz : Nat) (h0 : Nat) (a0 : Nat) (sz0 : Int) (nu : Int → Int) (v : Int) (hp0 : lR v) (hp1 : 0 ≤ sz0 ∧ sz0 ≤ 8) : Met l yX4_add (lw_w yX4_add cX4_add 3 none) (rmk 1 0 0) (gPc D τ (W_c_Row_add τ h0 a0 sz0 nu v) sz [.ref h0, .long (lI v)]) (gQv D (E_c_Row_add τ h0 a0 sz0 nu v) (va_A (W_c_Row_add τ h0 a0 sz0 nu v) sz)) 0 0 (va_A (W_c_Row_add τ h0 a0 sz0 nu v) sz) := by
  refine g_met (ret := none) (Qc := gQv D (E_c_Row_add τ h0 a0 sz0 nu v)) (by decide +kernel) (Nat.le_of_ble_eq_true rfl) ?_
  intro p e s m args below meth c A ls hx hb hml hr hlk hnm hC hA hw hl
  have hC : cx D τ s m args RX4 := hC
  have hl : lv_has ls 3 [(0, .ref h0), (1, .long (lI v))] := hl
  have hw : wS D A s.heap [(h0, .inr (5, [.ref a0, .int (iI sz0)])), (a0, .inl (τ 1, 8, .inr (.inl (arL nu))))] s.heap [] := hw
  refine lv_aload_n hx hb dX4_add_0 rfl (lv_at hl 0 rfl) ?_
  refine gf_X4_15 hx hb hC hw 0 rfl rfl dX4_add_1 ?_
  refine r_bipush hx hb dX4_add_4 (by decide +kernel) ?_
  refine r_icmp_ge (tgt := 29) hx hb dX4_add_6 (by decide) (by omega) (by decide) (fun hbr1 => ?_) (fun hbr1 => ?_)
  · skip
    exact r_vret hx hb hr hlk hw [(h0, .inr (5, [.ref a0, .int (iI sz0)])), (a0, .inl (τ 1, 8, .inr (.inl (arL nu))))] [0, 1] rfl (by decide) ⟨sz0, nu, (by omega), rfl⟩ dX4_add_29
  · skip
    refine lv_aload_n hx hb dX4_add_9 rfl (lv_at hl 0 rfl) ?_
    refine gf_X4_9 hx hb hC hw 0 rfl rfl dX4_add_10 ?_
    refine lv_aload_n hx hb dX4_add_13 rfl (lv_at hl 0 rfl) ?_
    refine gf_X4_15 hx hb hC hw 0 rfl rfl dX4_add_14 ?_
    refine lv_lload_n hx hb dX4_add_17 rfl (lv_at hl 1 rfl) ?_
    refine r_last (ws' := [(h0, .inr (5, [.ref a0, .int (iI sz0)])), (a0, .inl (τ 1, 8, .inr (.inl (arL (up nu sz0 v)))))]) hx hb hC hw 1 rfl (by omega) (by omega) (by decide) rfl dX4_add_18 (fun H locs hw => ?_)
    refine lv_aload_n hx hb dX4_add_19 rfl (lv_at hl 0 rfl) ?_
    refine lv_dup hx hb dX4_add_20 rfl ?_
    refine gf_X4_15 hx hb hC hw 0 rfl rfl dX4_add_21 ?_
    refine r_iconst hx hb dX4_add_24 ?_
    refine r_iadd (z := (sz0 + 1)) hx hb dX4_add_25 (by omega) ?_
    refine pf_X4_15 (ws' := [(h0, .inr (5, [.ref a0, .int (iI (sz0 + 1))])), (a0, .inl (τ 1, 8, .inr (.inl (arL (up nu sz0 v)))))]) hx hb hC hw 0 rfl (Nat.le_of_ble_eq_true rfl) rfl dX4_add_26 (fun H locs hw => ?_)
    exact r_vret hx hb hr hlk hw [(h0, .inr (5, [.ref a0, .int (iI (sz0 + 1))])), (a0, .inl (τ 1, 8, .inr (.inl (arL (up nu sz0 v)))))] [0, 1] rfl (by decide) ⟨(sz0 + 1), (up nu sz0 v), (by omega), rfl⟩ dX4_add_29
abbrev W_c_Row_tellOne (τ : Nat → ClassId) (h0 : Nat) (a0 : Nat) (sz0 : Int) (nu : Int → Int) (v : Int) : va_W := [(h0, .inr (5, [.ref a0, .int (iI sz0)])), (a0, .inl (τ 1, 8, .inr (.inl (arL nu))))]
abbrev E_c_Row_tellOne (τ : Nat → ClassId) (h0 : Nat) (a0 : Nat) (sz0 : Int) (nu : Int → Int) (v : Int) : va_W → Prop := fun w => ∃ (sz2 : Int), ∃ (nu2 : Int → Int), (sz2 = 1) ∧ w = [(h0, .inr (5, [.ref a0, .int (iI sz2)])), (a0, .inl (τ 1, 8, .inr (.inl (arL nu2))))]
set_option maxHeartbeats 4000000 in
set_option maxRecDepth 100000 in
theorem c_Row_tellOne (l : Launch) (D : va_G) (τ : Nat → ClassId) (sz : Nat) (h0 : Nat) (a0 : Nat) (sz0 : Int) (nu : Int → Int) (v : Int) (hp0 : lR v) : Met l yX4_tellOne (lw_w yX4_tellOne cX4_tellOne 3 none) (rmk 2 0 0) (gPc D τ (W_c_Row_tellOne τ h0 a0 sz0 nu v) sz [.ref h0, .long (lI v)]) (gQv D (E_c_Row_tellOne τ h0 a0 sz0 nu v) (va_A (W_c_Row_tellOne τ h0 a0 sz0 nu v) sz)) 0 0 (va_A (W_c_Row_tellOne τ h0 a0 sz0 nu v) sz) := by
  refine g_met (ret := none) (Qc := gQv D (E_c_Row_tellOne τ h0 a0 sz0 nu v)) (by decide +kernel) (Nat.le_of_ble_eq_true rfl) ?_
  intro p e s m args below meth c A ls hx hb hml hr hlk hnm hC hA hw hl
  have hC : cx D τ s m args RX4 := hC
  have hl : lv_has ls 3 [(0, .ref h0), (1, .long (lI v))] := hl
  have hw : wS D A s.heap [(h0, .inr (5, [.ref a0, .int (iI sz0)])), (a0, .inl (τ 1, 8, .inr (.inl (arL nu))))] s.heap [] := hw
  refine lv_aload_n hx hb dX4_tellOne_0 rfl (lv_at hl 0 rfl) ?_
  refine g_cVv (wr := [(a0, .inl (τ 1, 8, .inr (.inl (arL nu))))]) (q0 := 0) (ci := 5) hx hb hml hC hA hw hl.1 (c_Row_clear l D τ _ h0 a0 sz0 ) kX4_clear ml_X4_19 [0] [1] rfl rfl (by decide) (by decide) (by decide) rfl rfl rfl rfl (Nat.le_of_ble_eq_true rfl) ⟨by decide, by decide⟩ ⟨by decide, by decide⟩ rfl rfl dX4_tellOne_1 (fun w1 H locs hE1 hw => ?_)
  obtain ⟨hq1, rfl⟩ := hE1
  have hw : wS D A s.heap [(a0, .inl (τ 1, 8, .inr (.inl (arL nu)))), (h0, .inr (5, [.ref a0, .int (iI 0)]))] H locs := hw
  refine lv_aload_n hx hb dX4_tellOne_4 rfl (lv_at hl 0 rfl) ?_
  refine lv_lload_n hx hb dX4_tellOne_5 rfl (lv_at hl 1 rfl) ?_
  refine g_cVv (wr := []) (q0 := 0) (ci := 5) hx hb hml hC hA hw hl.1 (c_Row_add l D τ _ h0 a0 0 nu v (by omega) (by omega)) kX4_add ml_X4_22 [1, 0] [] rfl rfl (by decide) (by decide) (by decide) rfl rfl rfl rfl (Nat.le_of_ble_eq_true rfl) ⟨by decide, by decide⟩ ⟨by decide, by decide⟩ rfl rfl dX4_tellOne_6 (fun w2 H locs hE2 hw => ?_)
  obtain ⟨sz2_2, nu2_2, hq2, rfl⟩ := hE2
  have hw : wS D A s.heap [(h0, .inr (5, [.ref a0, .int (iI sz2_2)])), (a0, .inl (τ 1, 8, .inr (.inl (arL nu2_2))))] H locs := hw
  exact r_vret hx hb hr hlk hw [(h0, .inr (5, [.ref a0, .int (iI sz2_2)])), (a0, .inl (τ 1, 8, .inr (.inl (arL nu2_2))))] [0, 1] rfl (by decide) ⟨sz2_2, nu2_2, (by omega), rfl⟩ dX4_tellOne_9
abbrev W_c_Row_tellTwo (τ : Nat → ClassId) (h0 : Nat) (a0 : Nat) (sz0 : Int) (nu : Int → Int) (v : Int) (v2 : Int) : va_W := [(h0, .inr (5, [.ref a0, .int (iI sz0)])), (a0, .inl (τ 1, 8, .inr (.inl (arL nu))))]
abbrev E_c_Row_tellTwo (τ : Nat → ClassId) (h0 : Nat) (a0 : Nat) (sz0 : Int) (nu : Int → Int) (v : Int) (v2 : Int) : va_W → Prop := fun w => ∃ (sz2 : Int), ∃ (nu2 : Int → Int), (sz2 = 2) ∧ w = [(h0, .inr (5, [.ref a0, .int (iI sz2)])), (a0, .inl (τ 1, 8, .inr (.inl (arL nu2))))]
set_option maxHeartbeats 4000000 in
set_option maxRecDepth 100000 in
theorem c_Row_tellTwo (l : Launch) (D : va_G) (τ : Nat → ClassId) (sz : Nat) (h0 : Nat) (a0 : Nat) (sz0 : Int) (nu : Int → Int) (v : Int) (v2 : Int) (hp0 : lR v) (hp1 : lR v2) : Met l yX4_tellTwo (lw_w yX4_tellTwo cX4_tellTwo 5 none) (rmk 2 0 0) (gPc D τ (W_c_Row_tellTwo τ h0 a0 sz0 nu v v2) sz [.ref h0, .long (lI v), .long (lI v2)]) (gQv D (E_c_Row_tellTwo τ h0 a0 sz0 nu v v2) (va_A (W_c_Row_tellTwo τ h0 a0 sz0 nu v v2) sz)) 0 0 (va_A (W_c_Row_tellTwo τ h0 a0 sz0 nu v v2) sz) := by
  refine g_met (ret := none) (Qc := gQv D (E_c_Row_tellTwo τ h0 a0 sz0 nu v v2)) (by decide +kernel) (Nat.le_of_ble_eq_true rfl) ?_
  intro p e s m args below meth c A ls hx hb hml hr hlk hnm hC hA hw hl
  have hC : cx D τ s m args RX4 := hC
  have hl : lv_has ls 5 [(0, .ref h0), (1, .long (lI v)), (3, .long (lI v2))] := hl
  have hw : wS D A s.heap [(h0, .inr (5, [.ref a0, .int (iI sz0)])), (a0, .inl (τ 1, 8, .inr (.inl (arL nu))))] s.heap [] := hw
  refine lv_aload_n hx hb dX4_tellTwo_0 rfl (lv_at hl 0 rfl) ?_
  refine g_cVv (wr := [(a0, .inl (τ 1, 8, .inr (.inl (arL nu))))]) (q0 := 0) (ci := 5) hx hb hml hC hA hw hl.1 (c_Row_clear l D τ _ h0 a0 sz0 ) kX4_clear ml_X4_19 [0] [1] rfl rfl (by decide) (by decide) (by decide) rfl rfl rfl rfl (Nat.le_of_ble_eq_true rfl) ⟨by decide, by decide⟩ ⟨by decide, by decide⟩ rfl rfl dX4_tellTwo_1 (fun w1 H locs hE1 hw => ?_)
  obtain ⟨hq1, rfl⟩ := hE1
  have hw : wS D A s.heap [(a0, .inl (τ 1, 8, .inr (.inl (arL nu)))), (h0, .inr (5, [.ref a0, .int (iI 0)]))] H locs := hw
  refine lv_aload_n hx hb dX4_tellTwo_4 rfl (lv_at hl 0 rfl) ?_
  refine lv_lload_n hx hb dX4_tellTwo_5 rfl (lv_at hl 1 rfl) ?_
  refine g_cVv (wr := []) (q0 := 0) (ci := 5) hx hb hml hC hA hw hl.1 (c_Row_add l D τ _ h0 a0 0 nu v (by omega) (by omega)) kX4_add ml_X4_22 [1, 0] [] rfl rfl (by decide) (by decide) (by decide) rfl rfl rfl rfl (Nat.le_of_ble_eq_true rfl) ⟨by decide, by decide⟩ ⟨by decide, by decide⟩ rfl rfl dX4_tellTwo_6 (fun w2 H locs hE2 hw => ?_)
  obtain ⟨sz2_2, nu2_2, hq2, rfl⟩ := hE2
  have hw : wS D A s.heap [(h0, .inr (5, [.ref a0, .int (iI sz2_2)])), (a0, .inl (τ 1, 8, .inr (.inl (arL nu2_2))))] H locs := hw
  refine lv_aload_n hx hb dX4_tellTwo_9 rfl (lv_at hl 0 rfl) ?_
  refine lv_lload_n hx hb dX4_tellTwo_10 rfl (lv_at hl 2 rfl) ?_
  refine g_cVv (wr := []) (q0 := 0) (ci := 5) hx hb hml hC hA hw hl.1 (c_Row_add l D τ _ h0 a0 sz2_2 nu2_2 v2 (by omega) (by omega)) kX4_add ml_X4_22 [0, 1] [] rfl rfl (by decide) (by decide) (by decide) rfl rfl rfl rfl (Nat.le_of_ble_eq_true rfl) ⟨by decide, by decide⟩ ⟨by decide, by decide⟩ rfl rfl dX4_tellTwo_11 (fun w3 H locs hE3 hw => ?_)
  obtain ⟨sz2_3, nu2_3, hq3, rfl⟩ := hE3
  have hw : wS D A s.heap [(h0, .inr (5, [.ref a0, .int (iI sz2_3)])), (a0, .inl (τ 1, 8, .inr (.inl (arL nu2_3))))] H locs := hw
  exact r_vret hx hb hr hlk hw [(h0, .inr (5, [.ref a0, .int (iI sz2_3)])), (a0, .inl (τ 1, 8, .inr (.inl (arL nu2_3))))] [0, 1] rfl (by decide) ⟨sz2_3, nu2_3, (by omega), rfl⟩ dX4_tellTwo_14
