set_option maxHeartbeats 4000000 in
set_option maxRecDepth 100000 in
theorem mX11_hourFault (l : Launch) (D : va_G) (τ : Nat → ClassId) (ad : Nat → Nat) (sA sV : Nat → Nat) (sz : Nat)   (M : Mem) (hM : MR M) (Q : Int → Mem → Prop) (hv : qX11_hourFault  M Q) : Met l yX11_hourFault (lw_w yX11_hourFault cX11_hourFault 2 (some .int)) (rmk 4 0 0) (kPc D τ sA sV (WX τ ad M) sz [.ref (ad 155)]) (gQi D (EQi (WX τ ad) MR Q) (va_A (WX τ ad M) sz)) 0 0 (va_A (WX τ ad M) sz) := by
  refine k_met (ret := (some .int)) (Qc := gQi D (EQi (WX τ ad) MR Q)) (by decide +kernel) (Nat.le_of_ble_eq_true rfl) ?_
  intro p e s m args below meth c A ls hx hb hml hr hlk hnm hC hLS hA hw hl
  have hC : cx D τ s m args RX11 := hC
  have hl : lv_has ls 2 [(0, .ref (ad 155))] := hl
  unfold qX11_hourFault at hv
  have L11 : ∀ (X48 : Mem → Prop), (∀  (M : Mem) (H : Heap) (locs : List Loc) (ls : Array Slot), MR M → X48  M → wS D A s.heap (WX τ ad M) H locs → lv_has ls 2 [(0, .ref (ad 155))] → W p l e (rmk 4 0 0) s m args below meth c H locs 0 0 (MQ below (gQi D (EQi (WX τ ad) MR Q) A) args s 0 0 A) (F0 m 48 ls [])) → ∀ (n : Nat) (v1 : Int) (M : Mem) (H : Heap) (locs : List Loc) (ls : Array Slot), MR M → qX11_hourFault_L11  X48 Q n v1 M → wS D A s.heap (WX τ ad M) H locs → lv_has ls 2 [(0, .ref (ad 155)), (1, .int (iI v1))] → W p l e (rmk 4 0 0) s m args below meth c H locs 0 0 (MQ below (gQi D (EQi (WX τ ad) MR Q) A) args s 0 0 A) (F0 m 11 ls []) := by
    intro X48 hX48 n
    induction n with
    | zero => intro v1 M H locs ls hM hv; rw [qX11_hourFault_L11] at hv; exact hv.elim
    | succ n ih =>
      intro v1 M H locs ls hM hv hw hl
      rw [qX11_hourFault_L11] at hv
      refine lv_iload_n hx hb dX11_hourFault_11 rfl (lv_at hl 1 rfl) ?_
      refine r_bipush hx hb dX11_hourFault_12 (by decide +kernel) ?_
      obtain ⟨c2, hv⟩ := hv
      refine r_icmp_ge (tgt := 48) hx hb dX11_hourFault_14 (by decide) c2 (by decide) (fun b3 => ?_) (fun b3 => ?_)
      · have hv := hv.1 b3
        exact hX48  M _ _ _ hM hv hw (lv_sub hl [0] rfl)
      · have hv := hv.2 b3
        refine lv_aload_n hx hb dX11_hourFault_17 rfl (lv_at hl 0 rfl) ?_
        refine gf_X11_10 hx hb hC hw 155 (gX_155 τ ad M) rfl dX11_hourFault_18 ?_
        refine k_cVz (wq_X τ ad) hx hb hml hC hLS hA hw hl.1 (mX9_isRead l D τ ad sA sV _   M hM _ hv) kX9_isRead ml_X11_327 rfl (gX_156 τ ad M) rfl rfl (Nat.le_of_ble_eq_true rfl) (rm_ok (by decide) (by decide)) ⟨Nat.zero_le _, Nat.zero_le _⟩ dX11_hourFault_21 (fun x4 M4 H locs g4 z4 hM hv hw => ?_)
        have hv := hv g4 z4
        refine r_if_ne (tgt := 48) hx hb dX11_hourFault_24 (by decide) g4  (fun b5 => ?_) (fun b5 => ?_)
        · have hv := hv.1 b5
          exact hX48  M4 _ _ _ hM hv hw (lv_sub hl [0] rfl)
        · have hv := hv.2 b5
          refine lv_aload_n hx hb dX11_hourFault_27 rfl (lv_at hl 0 rfl) ?_
          refine k_cVz (wq_X τ ad) hx hb hml hC hLS hA hw hl.1 (mX11_passAct l D τ ad sA sV _   M4 hM _ hv) kX11_passAct ml_X11_336 rfl (gX_155 τ ad M4) rfl rfl (Nat.le_of_ble_eq_true rfl) (rm_ok (by decide) (by decide)) ⟨Nat.zero_le _, Nat.zero_le _⟩ dX11_hourFault_28 (fun x6 M6 H locs g6 z6 hM hv hw => ?_)
          have hv := hv g6 z6
          refine r_if_ne (tgt := 42) hx hb dX11_hourFault_31 (by decide) g6  (fun b7 => ?_) (fun b7 => ?_)
          · have hv := hv.1 b7
            refine r_iinc (v := (v1 + 1)) (lv' := [(1, .int (iI (v1 + 1))), (0, .ref (ad 155))]) hx hb dX11_hourFault_42 hl (k := 1) rfl rfl (by decide) rfl (fun ls hl => ?_)
            refine lv_goto (tgt := 11) hx hb dX11_hourFault_45 (by decide) ?_
            exact ih (v1 + 1) M6 _ _ _ hM hv hw (lv_sub hl [1, 0] rfl)
          · have hv := hv.2 b7
            refine lv_aload_n hx hb dX11_hourFault_34 rfl (lv_at hl 0 rfl) ?_
            refine gf_X11_10 hx hb hC hw 155 (gX_155 τ ad M6) rfl dX11_hourFault_35 ?_
            refine gf_X11_167 hx hb hC hw 156 (gX_156 τ ad M6) rfl dX11_hourFault_38 ?_
            refine r_top (fun x8 e8 => ?_)
            have g8 : iR x8 := by rw [e8]; exact hM.get (by decide) _
            have hv := hv x8 e8 g8
            exact k_iret (wq_X τ ad) hx hb hr hlk hw hM g8 hv dX11_hourFault_41
  have J48 : ∀  (M : Mem) (H : Heap) (locs : List Loc) (ls : Array Slot), MR M → qX11_hourFault_J48  Q  M → wS D A s.heap (WX τ ad M) H locs → lv_has ls 2 [(0, .ref (ad 155))] → W p l e (rmk 4 0 0) s m args below meth c H locs 0 0 (MQ below (gQi D (EQi (WX τ ad) MR Q) A) args s 0 0 A) (F0 m 48 ls []) := by
    intro  M H locs ls hM hv hw hl
    unfold qX11_hourFault_J48 at hv
    refine lv_aload_n hx hb dX11_hourFault_48 rfl (lv_at hl 0 rfl) ?_
    refine gf_X11_10 hx hb hC hw 155 (gX_155 τ ad M) rfl dX11_hourFault_49 ?_
    refine k_cVz (wq_X τ ad) hx hb hml hC hLS hA hw hl.1 (mX9_isWhole l D τ ad sA sV _   M hM _ hv) kX9_isWhole ml_X11_173 rfl (gX_156 τ ad M) rfl rfl (Nat.le_of_ble_eq_true rfl) (rm_ok (by decide) (by decide)) ⟨Nat.zero_le _, Nat.zero_le _⟩ dX11_hourFault_52 (fun x10 M10 H locs g10 z10 hM hv hw => ?_)
    have hv := hv g10 z10
    refine r_if_eq (tgt := 62) hx hb dX11_hourFault_55 (by decide) g10  (fun b11 => ?_) (fun b11 => ?_)
    · have hv := hv.1 b11
      refine lv_aload_n hx hb dX11_hourFault_62 rfl (lv_at hl 0 rfl) ?_
      refine gf_X11_10 hx hb hC hw 155 (gX_155 τ ad M10) rfl dX11_hourFault_63 ?_
      refine gf_X11_167 hx hb hC hw 156 (gX_156 τ ad M10) rfl dX11_hourFault_66 ?_
      refine r_top (fun x12 e12 => ?_)
      have g12 : iR x12 := by rw [e12]; exact hM.get (by decide) _
      have hv := hv x12 e12 g12
      exact k_iret (wq_X τ ad) hx hb hr hlk hw hM g12 hv dX11_hourFault_69
    · have hv := hv.2 b11
      refine r_iconst hx hb dX11_hourFault_58 ?_
      refine lv_goto (tgt := 69) hx hb dX11_hourFault_59 (by decide) ?_
      exact k_iret (wq_X τ ad) hx hb hr hlk hw hM (by decide) hv dX11_hourFault_69
  refine lv_aload_n hx hb dX11_hourFault_0 rfl (lv_at hl 0 rfl) ?_
  refine gf_X11_10 hx hb hC hw 155 (gX_155 τ ad M) rfl dX11_hourFault_1 ?_
  refine r_bipush hx hb dX11_hourFault_4 (by decide +kernel) ?_
  refine k_cVv (wq_X τ ad) hx hb hml hC hLS hA hw hl.1 (mX9_open l D τ ad sA sV _ 60 (by decide) M hM _ hv) kX9_open ml_X11_157 rfl (gX_156 τ ad M) rfl rfl (Nat.le_of_ble_eq_true rfl) (rm_ok (by decide) (by decide)) ⟨Nat.zero_le _, Nat.zero_le _⟩ dX11_hourFault_6 (fun M1 H locs hM hv hw => ?_)
  refine r_iconst hx hb dX11_hourFault_9 ?_
  refine lv_istore_n (lv' := [(1, .int (iI 0)), (0, .ref (ad 155))]) hx hb dX11_hourFault_10 rfl hl (by decide) rfl (fun ls hl => ?_)
  obtain ⟨n9, hv⟩ := hv
  refine L11 _ ?_ n9 0 M1 _ _ _ hM hv hw (lv_sub hl [1, 0] rfl)
  · intro  M H locs ls hM hv hw hl
    exact J48  M _ _ _ hM hv hw (lv_sub hl [0] rfl)
set_option maxHeartbeats 4000000 in
set_option maxRecDepth 100000 in
theorem mX11_hour (l : Launch) (D : va_G) (τ : Nat → ClassId) (ad : Nat → Nat) (sA sV : Nat → Nat) (sz : Nat)   (M : Mem) (hM : MR M) (Q : Int → Mem → Prop) (hv : qX11_hour  M Q) : Met l yX11_hour (lw_w yX11_hour cX11_hour 5 (some .int)) (rmk 7 0 0) (kPc D τ sA sV (WX τ ad M) sz [.ref (ad 155)]) (gQi D (EQi (WX τ ad) MR Q) (va_A (WX τ ad M) sz)) 0 0 (va_A (WX τ ad M) sz) := by
  refine k_met (ret := (some .int)) (Qc := gQi D (EQi (WX τ ad) MR Q)) (by decide +kernel) (Nat.le_of_ble_eq_true rfl) ?_
  intro p e s m args below meth c A ls hx hb hml hr hlk hnm hC hLS hA hw hl
  have hC : cx D τ s m args RX11 := hC
  have hl : lv_has ls 5 [(0, .ref (ad 155))] := hl
  unfold qX11_hour at hv
  have J73 : ∀ (R : Int → Int → Int → Int → Mem → Prop), (∀ (v1 : Int) (v2 : Int) (v3 : Int) (v4 : Int) (M : Mem) (H : Heap) (locs : List Loc) (ls : Array Slot), MR M → R v1 v2 v3 v4 M → wS D A s.heap (WX τ ad M) H locs → lv_has ls 5 [(0, .ref (ad 155)), (1, .int (iI v1)), (2, .int (iI v2)), (3, .int (iI v3)), (4, .int (iI v4))] → W p l e (rmk 7 0 0) s m args below meth c H locs 0 0 (MQ below (gQi D (EQi (WX τ ad) MR Q) A) args s 0 0 A) (F0 m 32 ls [])) → ∀ (X92 : Int → Int → Int → Mem → Prop), (∀ (v1 : Int) (v2 : Int) (v3 : Int) (M : Mem) (H : Heap) (locs : List Loc) (ls : Array Slot), MR M → X92 v1 v2 v3 M → wS D A s.heap (WX τ ad M) H locs → lv_has ls 5 [(0, .ref (ad 155)), (1, .int (iI v1)), (2, .int (iI v2)), (3, .int (iI v3))] → W p l e (rmk 7 0 0) s m args below meth c H locs 0 0 (MQ below (gQi D (EQi (WX τ ad) MR Q) A) args s 0 0 A) (F0 m 92 ls [])) → ∀ (v1 : Int) (v2 : Int) (v4 : Int) (t0 : Int) (M : Mem) (H : Heap) (locs : List Loc) (ls : Array Slot), MR M → qX11_hour_J73  R X92 Q v1 v2 v4 t0 M → wS D A s.heap (WX τ ad M) H locs → lv_has ls 5 [(0, .ref (ad 155)), (1, .int (iI v1)), (2, .int (iI v2)), (4, .int (iI v4))] → W p l e (rmk 7 0 0) s m args below meth c H locs 0 0 (MQ below (gQi D (EQi (WX τ ad) MR Q) A) args s 0 0 A) (F0 m 73 ls [.int (iI t0)]) := by
    intro R hR X92 hX92 v1 v2 v4 t0 M H locs ls hM hv hw hl
    unfold qX11_hour_J73 at hv
    refine lv_istore_n (lv' := [(3, .int (iI t0)), (0, .ref (ad 155)), (1, .int (iI v1)), (2, .int (iI v2)), (4, .int (iI v4))]) hx hb dX11_hour_73 rfl hl (by decide) rfl (fun ls hl => ?_)
    refine lv_iload_n hx hb dX11_hour_74 rfl (lv_at hl 3 rfl) ?_
    refine lv_iload_n hx hb dX11_hour_75 rfl (lv_at hl 0 rfl) ?_
    obtain ⟨c15, hv⟩ := hv
    refine r_if_eq (tgt := 83) hx hb dX11_hour_76 (by decide) c15  (fun b16 => ?_) (fun b16 => ?_)
    · have hv := hv.1 b16
      refine r_iconst hx hb dX11_hour_83 ?_
      refine r_iadd (z := (v2 + 1)) hx hb dX11_hour_84 rfl ?_
      refine lv_istore_n (lv' := [(2, .int (iI (v2 + 1))), (3, .int (iI t0)), (0, .ref (ad 155)), (1, .int (iI v1)), (4, .int (iI v4))]) hx hb dX11_hour_85 rfl hl (by decide) rfl (fun ls hl => ?_)
      refine r_iinc (v := (v4 + 1)) (lv' := [(4, .int (iI (v4 + 1))), (2, .int (iI (v2 + 1))), (3, .int (iI t0)), (0, .ref (ad 155)), (1, .int (iI v1))]) hx hb dX11_hour_86 hl (k := 4) rfl rfl (by decide) rfl (fun ls hl => ?_)
      refine lv_goto (tgt := 32) hx hb dX11_hour_89 (by decide) ?_
      exact hR v1 (v2 + 1) t0 (v4 + 1) M _ _ _ hM hv hw (lv_sub hl [3, 4, 1, 2, 0] rfl)
    · have hv := hv.2 b16
      refine r_iconst hx hb dX11_hour_79 ?_
      refine lv_goto (tgt := 84) hx hb dX11_hour_80 (by decide) ?_
      refine r_iadd (z := (v2 + 0)) hx hb dX11_hour_84 rfl ?_
      refine lv_istore_n (lv' := [(2, .int (iI (v2 + 0))), (3, .int (iI t0)), (0, .ref (ad 155)), (1, .int (iI v1)), (4, .int (iI v4))]) hx hb dX11_hour_85 rfl hl (by decide) rfl (fun ls hl => ?_)
      refine r_iinc (v := (v4 + 1)) (lv' := [(4, .int (iI (v4 + 1))), (2, .int (iI (v2 + 0))), (3, .int (iI t0)), (0, .ref (ad 155)), (1, .int (iI v1))]) hx hb dX11_hour_86 hl (k := 4) rfl rfl (by decide) rfl (fun ls hl => ?_)
      refine lv_goto (tgt := 32) hx hb dX11_hour_89 (by decide) ?_
      exact hR v1 (v2 + 0) t0 (v4 + 1) M _ _ _ hM hv hw (lv_sub hl [3, 4, 1, 2, 0] rfl)
  have L32 : ∀ (X92 : Int → Int → Int → Mem → Prop), (∀ (v1 : Int) (v2 : Int) (v3 : Int) (M : Mem) (H : Heap) (locs : List Loc) (ls : Array Slot), MR M → X92 v1 v2 v3 M → wS D A s.heap (WX τ ad M) H locs → lv_has ls 5 [(0, .ref (ad 155)), (1, .int (iI v1)), (2, .int (iI v2)), (3, .int (iI v3))] → W p l e (rmk 7 0 0) s m args below meth c H locs 0 0 (MQ below (gQi D (EQi (WX τ ad) MR Q) A) args s 0 0 A) (F0 m 92 ls [])) → ∀ (n : Nat) (v1 : Int) (v2 : Int) (v3 : Int) (v4 : Int) (M : Mem) (H : Heap) (locs : List Loc) (ls : Array Slot), MR M → qX11_hour_L32  X92 Q n v1 v2 v3 v4 M → wS D A s.heap (WX τ ad M) H locs → lv_has ls 5 [(0, .ref (ad 155)), (1, .int (iI v1)), (2, .int (iI v2)), (3, .int (iI v3)), (4, .int (iI v4))] → W p l e (rmk 7 0 0) s m args below meth c H locs 0 0 (MQ below (gQi D (EQi (WX τ ad) MR Q) A) args s 0 0 A) (F0 m 32 ls []) := by
    intro X92 hX92 n
    induction n with
    | zero => intro v1 v2 v3 v4 M H locs ls hM hv; rw [qX11_hour_L32] at hv; exact hv.elim
    | succ n ih =>
      intro v1 v2 v3 v4 M H locs ls hM hv hw hl
      rw [qX11_hour_L32] at hv
      refine lv_iload hx hb dX11_hour_32 (lv_at hl 4 rfl) ?_
      refine r_bipush hx hb dX11_hour_34 (by decide +kernel) ?_
      obtain ⟨c4, hv⟩ := hv
      refine r_icmp_ge (tgt := 92) hx hb dX11_hour_36 (by decide) c4 (by decide) (fun b5 => ?_) (fun b5 => ?_)
      · have hv := hv.1 b5
        exact hX92 v1 v2 v3 M _ _ _ hM hv hw (lv_sub hl [0, 1, 2, 3] rfl)
      · have hv := hv.2 b5
        refine lv_iload_n hx hb dX11_hour_39 rfl (lv_at hl 1 rfl) ?_
        refine r_iconst hx hb dX11_hour_40 ?_
        obtain ⟨c6, hv⟩ := hv
        refine r_icmp_ne (tgt := 92) hx hb dX11_hour_41 (by decide) c6 (by decide) (fun b7 => ?_) (fun b7 => ?_)
        · have hv := hv.1 b7
          exact hX92 v1 v2 v3 M _ _ _ hM hv hw (lv_sub hl [0, 1, 2, 3] rfl)
        · have hv := hv.2 b7
          refine lv_iload_n hx hb dX11_hour_44 rfl (lv_at hl 3 rfl) ?_
          obtain ⟨c8, hv⟩ := hv
          refine r_if_ne (tgt := 92) hx hb dX11_hour_45 (by decide) c8  (fun b9 => ?_) (fun b9 => ?_)
          · have hv := hv.1 b9
            exact hX92 v1 v2 v3 M _ _ _ hM hv hw (lv_sub hl [0, 1, 2, 3] rfl)
          · have hv := hv.2 b9
            refine lv_aload_n hx hb dX11_hour_48 rfl (lv_at hl 0 rfl) ?_
            refine gf_X11_10 hx hb hC hw 155 (gX_155 τ ad M) rfl dX11_hour_49 ?_
            refine k_cVz (wq_X τ ad) hx hb hml hC hLS hA hw hl.1 (mX9_isRead l D τ ad sA sV _   M hM _ hv) kX9_isRead ml_X11_327 rfl (gX_156 τ ad M) rfl rfl (Nat.le_of_ble_eq_true rfl) (rm_ok (by decide) (by decide)) ⟨Nat.zero_le _, Nat.zero_le _⟩ dX11_hour_52 (fun x10 M10 H locs g10 z10 hM hv hw => ?_)
            have hv := hv g10 z10
            refine r_if_ne (tgt := 92) hx hb dX11_hour_55 (by decide) g10  (fun b11 => ?_) (fun b11 => ?_)
            · have hv := hv.1 b11
              exact hX92 v1 v2 v3 M10 _ _ _ hM hv hw (lv_sub hl [0, 1, 2, 3] rfl)
            · have hv := hv.2 b11
              refine lv_aload_n hx hb dX11_hour_58 rfl (lv_at hl 0 rfl) ?_
              refine k_cVi (wq_X τ ad) hx hb hml hC hLS hA hw hl.1 (mX11_doAct l D τ ad sA sV _   M10 hM _ hv) kX11_doAct ml_X11_330 rfl (gX_155 τ ad M10) rfl rfl (Nat.le_of_ble_eq_true rfl) (rm_ok (by decide) (by decide)) ⟨Nat.zero_le _, Nat.zero_le _⟩ dX11_hour_59 (fun x12 M12 H locs g12 hM hv hw => ?_)
              have hv := hv g12
              refine k_cSz (wq_X τ ad) hx hb hml hC hLS hA hw hl.1 (mX11_isDone l D τ ad sA sV _ x12 g12 M12 hM _ hv) kX11_isDone ml_X11_318 rfl rfl (Nat.le_of_ble_eq_true rfl) (rm_ok (by decide) (by decide)) ⟨Nat.zero_le _, Nat.zero_le _⟩ dX11_hour_62 (fun x13 M13 H locs g13 z13 hM hv hw => ?_)
              have hv := hv g13 z13
              refine r_if_ne (tgt := 72) hx hb dX11_hour_65 (by decide) g13  (fun b14 => ?_) (fun b14 => ?_)
              · have hv := hv.1 b14
                refine r_iconst hx hb dX11_hour_72 ?_
                exact J73 _ ih _ hX92 v1 v2 v4 0 M13 _ _ _ hM hv hw (lv_sub hl [0, 1, 2, 4] rfl)
              · have hv := hv.2 b14
                refine r_iconst hx hb dX11_hour_68 ?_
                refine lv_goto (tgt := 73) hx hb dX11_hour_69 (by decide) ?_
                exact J73 _ ih _ hX92 v1 v2 v4 1 M13 _ _ _ hM hv hw (lv_sub hl [0, 1, 2, 4] rfl)
  have J136 : ∀ (v2 : Int) (t0 : Int) (M : Mem) (H : Heap) (locs : List Loc) (ls : Array Slot), MR M → qX11_hour_J136  Q v2 t0 M → wS D A s.heap (WX τ ad M) H locs → lv_has ls 5 [(0, .ref (ad 155)), (2, .int (iI v2))] → W p l e (rmk 7 0 0) s m args below meth c H locs 0 0 (MQ below (gQi D (EQi (WX τ ad) MR Q) A) args s 0 0 A) (F0 m 136 ls [.long (lI t0), .ref (ad 167)]) := by
    intro v2 t0 M H locs ls hM hv hw hl
    unfold qX11_hour_J136 at hv
    refine lv_aload_n hx hb dX11_hour_136 rfl (lv_at hl 0 rfl) ?_
    refine gf_X11_26 hx hb hC hw 155 (gX_155 τ ad M) rfl dX11_hour_137 ?_
    refine gf_X11_333 hx hb hC hw 1 (gS_X (by decide) τ ad M) rfl dX11_hour_140 ?_
    refine r_top (fun x25 e25 => ?_)
    have g25 : iR x25 := by rw [e25]; exact hM.get (by decide) _
    have hv := hv x25 e25 g25
    refine r_i2l hx hb dX11_hour_143 g25 ?_
    obtain ⟨c26, hv⟩ := hv
    refine k_cVv (wq_X τ ad) hx hb hml hC hLS hA hw hl.1 (mX4_tellTwo l D τ ad sA sV _ t0 x25 c26 (iR_lR g25) M hM _ hv) kX4_tellTwo ml_X11_298 rfl (gX_167 τ ad M) rfl rfl (Nat.le_of_ble_eq_true rfl) (rm_ok (by decide) (by decide)) ⟨Nat.zero_le _, Nat.zero_le _⟩ dX11_hour_144 (fun M27 H locs hM hv hw => ?_)
    refine lv_iload_n hx hb dX11_hour_147 rfl (lv_at hl 1 rfl) ?_
    obtain ⟨c28, hv⟩ := hv
    exact k_iret (wq_X τ ad) hx hb hr hlk hw hM c28 hv dX11_hour_148
  have J123 : ∀ (v2 : Int) (v3 : Int) (M : Mem) (H : Heap) (locs : List Loc) (ls : Array Slot), MR M → qX11_hour_J123  Q v2 v3 M → wS D A s.heap (WX τ ad M) H locs → lv_has ls 5 [(0, .ref (ad 155)), (2, .int (iI v2)), (3, .int (iI v3))] → W p l e (rmk 7 0 0) s m args below meth c H locs 0 0 (MQ below (gQi D (EQi (WX τ ad) MR Q) A) args s 0 0 A) (F0 m 123 ls []) := by
    intro v2 v3 M H locs ls hM hv hw hl
    unfold qX11_hour_J123 at hv
    refine lv_aload_n hx hb dX11_hour_123 rfl (lv_at hl 0 rfl) ?_
    refine gf_X11_66 hx hb hC hw 155 (gX_155 τ ad M) rfl dX11_hour_124 ?_
    refine lv_iload_n hx hb dX11_hour_127 rfl (lv_at hl 2 rfl) ?_
    obtain ⟨c23, hv⟩ := hv
    refine r_if_eq (tgt := 135) hx hb dX11_hour_128 (by decide) c23  (fun b24 => ?_) (fun b24 => ?_)
    · have hv := hv.1 b24
      refine r_lconst (z := 0) hx hb dX11_hour_135 (by decide +kernel) ?_
      exact J136 v2 0 M _ _ _ hM hv hw (lv_sub hl [0, 1] rfl)
    · have hv := hv.2 b24
      refine r_lconst (z := 1) hx hb dX11_hour_131 (by decide +kernel) ?_
      refine lv_goto (tgt := 136) hx hb dX11_hour_132 (by decide) ?_
      exact J136 v2 1 M _ _ _ hM hv hw (lv_sub hl [0, 1] rfl)
  have J92 : ∀ (v1 : Int) (v2 : Int) (v3 : Int) (M : Mem) (H : Heap) (locs : List Loc) (ls : Array Slot), MR M → qX11_hour_J92  Q v1 v2 v3 M → wS D A s.heap (WX τ ad M) H locs → lv_has ls 5 [(0, .ref (ad 155)), (1, .int (iI v1)), (2, .int (iI v2)), (3, .int (iI v3))] → W p l e (rmk 7 0 0) s m args below meth c H locs 0 0 (MQ below (gQi D (EQi (WX τ ad) MR Q) A) args s 0 0 A) (F0 m 92 ls []) := by
    intro v1 v2 v3 M H locs ls hM hv hw hl
    unfold qX11_hour_J92 at hv
    refine lv_aload_n hx hb dX11_hour_92 rfl (lv_at hl 0 rfl) ?_
    refine gf_X11_10 hx hb hC hw 155 (gX_155 τ ad M) rfl dX11_hour_93 ?_
    refine k_cVv (wq_X τ ad) hx hb hml hC hLS hA hw hl.1 (mX9_clear l D τ ad sA sV _   M hM _ hv) kX9_clear ml_X11_140 rfl (gX_156 τ ad M) rfl rfl (Nat.le_of_ble_eq_true rfl) (rm_ok (by decide) (by decide)) ⟨Nat.zero_le _, Nat.zero_le _⟩ dX11_hour_96 (fun M18 H locs hM hv hw => ?_)
    refine lv_iload_n hx hb dX11_hour_99 rfl (lv_at hl 1 rfl) ?_
    refine r_iconst hx hb dX11_hour_100 ?_
    obtain ⟨c19, hv⟩ := hv
    refine r_icmp_eq (tgt := 108) hx hb dX11_hour_101 (by decide) c19 (by decide) (fun b20 => ?_) (fun b20 => ?_)
    · have hv := hv.1 b20
      refine lv_iload_n hx hb dX11_hour_108 rfl (lv_at hl 2 rfl) ?_
      obtain ⟨c21, hv⟩ := hv
      refine r_if_le (tgt := 123) hx hb dX11_hour_109 (by decide) c21  (fun b22 => ?_) (fun b22 => ?_)
      · have hv := hv.1 b22
        exact J123 v2 v3 M18 _ _ _ hM hv hw (lv_sub hl [0, 2, 3] rfl)
      · have hv := hv.2 b22
        refine lv_aload_n hx hb dX11_hour_112 rfl (lv_at hl 0 rfl) ?_
        refine gf_X11_51 hx hb hC hw 155 (gX_155 τ ad M18) rfl dX11_hour_113 ?_
        refine lv_aload_n hx hb dX11_hour_116 rfl (lv_at hl 0 rfl) ?_
        refine gf_X11_36 hx hb hC hw 155 (gX_155 τ ad M18) rfl dX11_hour_117 ?_
        refine k_cVv (wq_X τ ad) hx hb hml hC hLS hA hw hl.1 (mX1_add l D τ ad sA sV _ 22 (by decide) M18 hM _ hv) kX1_add ml_X11_321 rfl (gX_163 τ ad M18) rfl rfl (Nat.le_of_ble_eq_true rfl) (rm_ok (by decide) (by decide)) ⟨Nat.zero_le _, Nat.zero_le _⟩ dX11_hour_120 (fun M29 H locs hM hv hw => ?_)
        exact J123 v2 v3 M29 _ _ _ hM hv hw (lv_sub hl [0, 2, 3] rfl)
    · have hv := hv.2 b20
      refine r_iconst hx hb dX11_hour_104 ?_
      refine lv_iload_n hx hb dX11_hour_105 rfl (lv_at hl 1 rfl) ?_
      refine r_isub (z := ((-1) - v1)) hx hb dX11_hour_106 rfl ?_
      obtain ⟨c30, hv⟩ := hv
      exact k_iret (wq_X τ ad) hx hb hr hlk hw hM c30 hv dX11_hour_107
  refine lv_aload_n hx hb dX11_hour_0 rfl (lv_at hl 0 rfl) ?_
  refine k_cVi (wq_X τ ad) hx hb hml hC hLS hA hw hl.1 (mX11_hourFault l D τ ad sA sV _   M hM _ hv) kX11_hourFault ml_X11_324 rfl (gX_155 τ ad M) rfl rfl (Nat.le_of_ble_eq_true rfl) (rm_ok (by decide) (by decide)) ⟨Nat.zero_le _, Nat.zero_le _⟩ dX11_hour_1 (fun x1 M1 H locs g1 hM hv hw => ?_)
  have hv := hv g1
  refine lv_istore_n (lv' := [(1, .int (iI x1)), (0, .ref (ad 155))]) hx hb dX11_hour_4 rfl hl (by decide) rfl (fun ls hl => ?_)
  refine r_iconst hx hb dX11_hour_5 ?_
  refine lv_istore_n (lv' := [(2, .int (iI 0)), (1, .int (iI x1)), (0, .ref (ad 155))]) hx hb dX11_hour_6 rfl hl (by decide) rfl (fun ls hl => ?_)
  refine r_iconst hx hb dX11_hour_7 ?_
  refine lv_istore_n (lv' := [(3, .int (iI 0)), (2, .int (iI 0)), (1, .int (iI x1)), (0, .ref (ad 155))]) hx hb dX11_hour_8 rfl hl (by decide) rfl (fun ls hl => ?_)
  refine lv_aload_n hx hb dX11_hour_9 rfl (lv_at hl 3 rfl) ?_
  refine gf_X11_36 hx hb hC hw 155 (gX_155 τ ad M1) rfl dX11_hour_10 ?_
  refine lv_aload_n hx hb dX11_hour_13 rfl (lv_at hl 3 rfl) ?_
  refine gf_X11_26 hx hb hC hw 155 (gX_155 τ ad M1) rfl dX11_hour_14 ?_
  refine k_cVv (wq_X τ ad) hx hb hml hC hLS hA hw hl.1 (mX6_copyFrom l D τ ad sA sV _ 22 1 (by decide) (by decide) M1 hM _ hv) kX6_copyFrom ml_X11_153 rfl (gS_X (by decide) τ ad M1) rfl rfl (Nat.le_of_ble_eq_true rfl) (rm_ok (by decide) (by decide)) ⟨Nat.zero_le _, Nat.zero_le _⟩ dX11_hour_17 (fun M2 H locs hM hv hw => ?_)
  refine lv_aload_n hx hb dX11_hour_20 rfl (lv_at hl 3 rfl) ?_
  refine gf_X11_10 hx hb hC hw 155 (gX_155 τ ad M2) rfl dX11_hour_21 ?_
  refine r_bipush hx hb dX11_hour_24 (by decide +kernel) ?_
  refine k_cVv (wq_X τ ad) hx hb hml hC hLS hA hw hl.1 (mX9_open l D τ ad sA sV _ 60 (by decide) M2 hM _ hv) kX9_open ml_X11_157 rfl (gX_156 τ ad M2) rfl rfl (Nat.le_of_ble_eq_true rfl) (rm_ok (by decide) (by decide)) ⟨Nat.zero_le _, Nat.zero_le _⟩ dX11_hour_26 (fun M3 H locs hM hv hw => ?_)
  refine r_iconst hx hb dX11_hour_29 ?_
  refine lv_istore (lv' := [(4, .int (iI 0)), (3, .int (iI 0)), (2, .int (iI 0)), (1, .int (iI x1)), (0, .ref (ad 155))]) hx hb dX11_hour_30 hl (by decide) rfl (fun ls hl => ?_)
  obtain ⟨n17, hv⟩ := hv
  refine L32 _ ?_ n17 x1 0 0 0 M3 _ _ _ hM hv hw (lv_sub hl [4, 3, 2, 1, 0] rfl)
  · intro v1 v2 v3 M H locs ls hM hv hw hl
    exact J92 v1 v2 v3 M _ _ _ hM hv hw (lv_sub hl [0, 1, 2, 3] rfl)
set_option maxHeartbeats 4000000 in
set_option maxRecDepth 100000 in
theorem mX1_takeBack (l : Launch) (D : va_G) (τ : Nat → ClassId) (ad : Nat → Nat) (sA sV : Nat → Nat) (sz : Nat) (k1 : Nat) (hk1 : isS k1) (M : Mem) (hM : MR M) (Q : Int → Mem → Prop) (hv : qX1_takeBack k1 M Q) : Met l yX1_takeBack (lw_w yX1_takeBack cX1_takeBack 2 (some .boolean)) (rmk 2 0 0) (kPc D τ sA sV (WX τ ad M) sz [.ref (ad 163), .ref (ad k1)]) (gQi D (EQz (WX τ ad) MR Q) (va_A (WX τ ad M) sz)) 0 0 (va_A (WX τ ad M) sz) := by
  refine k_met (ret := (some .boolean)) (Qc := gQi D (EQz (WX τ ad) MR Q)) (by decide +kernel) (Nat.le_of_ble_eq_true rfl) ?_
  intro p e s m args below meth c A ls hx hb hml hr hlk hnm hC hLS hA hw hl
  have hC : cx D τ s m args RX1 := hC
  have hl : lv_has ls 2 [(0, .ref (ad 163)), (1, .ref (ad k1))] := hl
  unfold qX1_takeBack at hv
  refine lv_aload_n hx hb dX1_takeBack_0 rfl (lv_at hl 0 rfl) ?_
  refine gf_X1_21 hx hb hC hw 163 (gX_163 τ ad M) rfl dX1_takeBack_1 ?_
  refine r_top (fun x1 e1 => ?_)
  have g1 : iR x1 := by rw [e1]; exact hM.get (by decide) _
  have hv := hv x1 e1 g1
  refine r_if_ne (tgt := 9) hx hb dX1_takeBack_4 (by decide) g1  (fun b2 => ?_) (fun b2 => ?_)
  · have hv := hv.1 b2
    refine lv_aload_n hx hb dX1_takeBack_9 rfl (lv_at hl 0 rfl) ?_
    refine lv_dup hx hb dX1_takeBack_10 rfl ?_
    refine gf_X1_21 hx hb hC hw 163 (gX_163 τ ad M) rfl dX1_takeBack_11 ?_
    refine r_top (fun x3 e3 => ?_)
    have g3 : iR x3 := by rw [e3]; exact hM.get (by decide) _
    have hv := hv x3 e3 g3
    refine r_iconst hx hb dX1_takeBack_14 ?_
    refine r_isub (z := (x3 - 1)) hx hb dX1_takeBack_15 rfl ?_
    obtain ⟨c4, hv⟩ := hv
    obtain ⟨M5, e5⟩ : ∃ M5 : Mem, M5 = up2 M 163 2 (x3 - 1) := ⟨_, rfl⟩
    have hv := hv M5 e5
    refine pf_X1_21 (ws' := (WX τ ad M5)) hx hb hC hw 163 (gX_163 τ ad M) (Nat.le_of_ble_eq_true rfl) (by rw [e5]; exact sX_163_2 τ ad M _) dX1_takeBack_16 (fun H locs hw => ?_)
    have hM : MR M5 := by rw [e5]; exact hM.put (by decide) c4
    refine lv_aload_n hx hb dX1_takeBack_19 rfl (lv_at hl 1 rfl) ?_
    refine lv_aload_n hx hb dX1_takeBack_20 rfl (lv_at hl 0 rfl) ?_
    refine gf_X1_11 hx hb hC hw 163 (gX_163 τ ad M5) rfl dX1_takeBack_21 ?_
    refine lv_aload_n hx hb dX1_takeBack_24 rfl (lv_at hl 0 rfl) ?_
    refine gf_X1_17 hx hb hC hw 163 (gX_163 τ ad M5) rfl dX1_takeBack_25 ?_
    refine r_top (fun x6 e6 => ?_)
    have g6 : iR x6 := by rw [e6]; exact hM.get (by decide) _
    have hv := hv x6 e6 g6
    refine lv_aload_n hx hb dX1_takeBack_28 rfl (lv_at hl 0 rfl) ?_
    refine gf_X1_21 hx hb hC hw 163 (gX_163 τ ad M5) rfl dX1_takeBack_29 ?_
    refine r_top (fun x7 e7 => ?_)
    have g7 : iR x7 := by rw [e7]; exact hM.get (by decide) _
    have hv := hv x7 e7 g7
    refine r_iadd (z := (x6 + x7)) hx hb dX1_takeBack_32 rfl ?_
    refine r_bipush hx hb dX1_takeBack_33 (by decide +kernel) ?_
    refine r_iremF hx hb dX1_takeBack_35 (by decide) (by decide) (fun x8 e8 g8 => ?_)
    have hv := hv x8 e8 g8
    obtain ⟨c9, hv⟩ := hv
    obtain ⟨c10, hv⟩ := hv
    refine r_aaldS (f := fun i => some (ad (50 + 7 * i))) (v := .ref (ad (50 + 7 * x8.toNat))) hx hb hC hw 164 (gR_164 τ ad M5) c9 c10 (by decide) rfl dX1_takeBack_36 ?_
    refine k_cVv (wq_X τ ad) hx hb hml hC hLS hA hw hl.1 (mX6_copyFrom l D τ ad sA sV _ k1 (50 + 7 * x8.toNat) hk1 (isS_hist c9 c10) M5 hM _ hv) kX6_copyFrom ml_X1_25 rfl (gS_X hk1 τ ad M5) rfl rfl (Nat.le_of_ble_eq_true rfl) (rm_ok (by decide) (by decide)) ⟨Nat.zero_le _, Nat.zero_le _⟩ dX1_takeBack_37 (fun M11 H locs hM hv hw => ?_)
    refine r_iconst hx hb dX1_takeBack_40 ?_
    exact k_zret (wq_X τ ad) hx hb hr hlk hw hM (by decide) (by decide) hv dX1_takeBack_41
  · have hv := hv.2 b2
    refine r_iconst hx hb dX1_takeBack_7 ?_
    exact k_zret (wq_X τ ad) hx hb hr hlk hw hM (by decide) (by decide) hv dX1_takeBack_8
set_option maxHeartbeats 4000000 in
set_option maxRecDepth 100000 in
theorem mX11_undo (l : Launch) (D : va_G) (τ : Nat → ClassId) (ad : Nat → Nat) (sA sV : Nat → Nat) (sz : Nat)   (M : Mem) (hM : MR M) (Q : Int → Mem → Prop) (hv : qX11_undo  M Q) : Met l yX11_undo (lw_w yX11_undo cX11_undo 1 (some .int)) (rmk 3 0 0) (kPc D τ sA sV (WX τ ad M) sz [.ref (ad 155)]) (gQi D (EQi (WX τ ad) MR Q) (va_A (WX τ ad M) sz)) 0 0 (va_A (WX τ ad M) sz) := by
  refine k_met (ret := (some .int)) (Qc := gQi D (EQi (WX τ ad) MR Q)) (by decide +kernel) (Nat.le_of_ble_eq_true rfl) ?_
  intro p e s m args below meth c A ls hx hb hml hr hlk hnm hC hLS hA hw hl
  have hC : cx D τ s m args RX11 := hC
  have hl : lv_has ls 1 [(0, .ref (ad 155))] := hl
  unfold qX11_undo at hv
  refine lv_aload_n hx hb dX11_undo_0 rfl (lv_at hl 0 rfl) ?_
  refine gf_X11_51 hx hb hC hw 155 (gX_155 τ ad M) rfl dX11_undo_1 ?_
  refine lv_aload_n hx hb dX11_undo_4 rfl (lv_at hl 0 rfl) ?_
  refine gf_X11_26 hx hb hC hw 155 (gX_155 τ ad M) rfl dX11_undo_5 ?_
  refine k_cVz (wq_X τ ad) hx hb hml hC hLS hA hw hl.1 (mX1_takeBack l D τ ad sA sV _ 1 (by decide) M hM _ hv) kX1_takeBack ml_X11_342 rfl (gX_163 τ ad M) rfl rfl (Nat.le_of_ble_eq_true rfl) (rm_ok (by decide) (by decide)) ⟨Nat.zero_le _, Nat.zero_le _⟩ dX11_undo_8 (fun x1 M1 H locs g1 z1 hM hv hw => ?_)
  have hv := hv g1 z1
  refine r_if_eq (tgt := 24) hx hb dX11_undo_11 (by decide) g1  (fun b2 => ?_) (fun b2 => ?_)
  · have hv := hv.1 b2
    refine r_iconst hx hb dX11_undo_24 ?_
    exact k_iret (wq_X τ ad) hx hb hr hlk hw hM (by decide) hv dX11_undo_25
  · have hv := hv.2 b2
    refine lv_aload_n hx hb dX11_undo_14 rfl (lv_at hl 0 rfl) ?_
    refine gf_X11_51 hx hb hC hw 155 (gX_155 τ ad M1) rfl dX11_undo_15 ?_
    refine gf_X11_346 hx hb hC hw 163 (gX_163 τ ad M1) rfl dX11_undo_18 ?_
    refine r_top (fun x3 e3 => ?_)
    have g3 : iR x3 := by rw [e3]; exact hM.get (by decide) _
    have hv := hv x3 e3 g3
    refine lv_goto (tgt := 25) hx hb dX11_undo_21 (by decide) ?_
    exact k_iret (wq_X τ ad) hx hb hr hlk hw hM g3 hv dX11_undo_25
set_option maxHeartbeats 4000000 in
set_option maxRecDepth 100000 in
theorem mX11_line (l : Launch) (D : va_G) (τ : Nat → ClassId) (ad : Nat → Nat) (sA sV : Nat → Nat) (sz : Nat)   (M : Mem) (hM : MR M) (Q : Int → Mem → Prop) (hv : qX11_line  M Q) : Met l yX11_line (lw_w yX11_line cX11_line 4 (some .int)) (rmk 2 0 0) (kPc D τ sA sV (WX τ ad M) sz [.ref (ad 155)]) (gQi D (EQi (WX τ ad) MR Q) (va_A (WX τ ad M) sz)) 0 0 (va_A (WX τ ad M) sz) := by
  refine k_met (ret := (some .int)) (Qc := gQi D (EQi (WX τ ad) MR Q)) (by decide +kernel) (Nat.le_of_ble_eq_true rfl) ?_
  intro p e s m args below meth c A ls hx hb hml hr hlk hnm hC hLS hA hw hl
  have hC : cx D τ s m args RX11 := hC
  have hl : lv_has ls 4 [(0, .ref (ad 155))] := hl
  unfold qX11_line at hv
  have L17 : ∀ (n : Nat) (v1 : Int) (v2 : Int) (M : Mem) (H : Heap) (locs : List Loc) (ls : Array Slot), MR M → qX11_line_L17   Q n v1 v2 M → wS D A s.heap (WX τ ad M) H locs → lv_has ls 4 [(0, .ref (ad 155)), (1, .int (iI v1)), (2, .int (iI v2))] → W p l e (rmk 2 0 0) s m args below meth c H locs 0 0 (MQ below (gQi D (EQi (WX τ ad) MR Q) A) args s 0 0 A) (F0 m 17 ls []) := by
    intro n
    induction n with
    | zero => intro v1 v2 M H locs ls hM hv; rw [qX11_line_L17] at hv; exact hv.elim
    | succ n ih =>
      intro v1 v2 M H locs ls hM hv hw hl
      rw [qX11_line_L17] at hv
      refine lv_iload_n hx hb dX11_line_17 rfl (lv_at hl 2 rfl) ?_
      refine r_bipush hx hb dX11_line_18 (by decide +kernel) ?_
      obtain ⟨c3, hv⟩ := hv
      refine r_icmp_ge (tgt := 65) hx hb dX11_line_20 (by decide) c3 (by decide) (fun b4 => ?_) (fun b4 => ?_)
      · have hv := hv.1 b4
        refine lv_aload_n hx hb dX11_line_65 rfl (lv_at hl 0 rfl) ?_
        refine gf_X11_66 hx hb hC hw 155 (gX_155 τ ad M) rfl dX11_line_66 ?_
        refine gf_X11_359 hx hb hC hw 167 (gX_167 τ ad M) rfl dX11_line_69 ?_
        refine r_top (fun x5 e5 => ?_)
        have g5 : iR x5 := by rw [e5]; exact hM.get (by decide) _
        have hv := hv x5 e5 g5
        exact k_iret (wq_X τ ad) hx hb hr hlk hw hM g5 hv dX11_line_72
      · have hv := hv.2 b4
        refine lv_aload_n hx hb dX11_line_23 rfl (lv_at hl 0 rfl) ?_
        refine gf_X11_26 hx hb hC hw 155 (gX_155 τ ad M) rfl dX11_line_24 ?_
        refine lv_iload_n hx hb dX11_line_27 rfl (lv_at hl 1 rfl) ?_
        obtain ⟨c6, hv⟩ := hv
        refine k_cVi (wq_X τ ad) hx hb hml hC hLS hA hw hl.1 (mX6_foremostBelow l D τ ad sA sV _ 1 v1 (by decide) c6 M hM _ hv) kX6_foremostBelow ml_X11_353 rfl (gS_X (by decide) τ ad M) rfl rfl (Nat.le_of_ble_eq_true rfl) (rm_ok (by decide) (by decide)) ⟨Nat.zero_le _, Nat.zero_le _⟩ dX11_line_28 (fun x7 M7 H locs g7 hM hv hw => ?_)
        have hv := hv g7
        refine lv_istore_n (lv' := [(3, .int (iI x7)), (0, .ref (ad 155)), (1, .int (iI v1)), (2, .int (iI v2))]) hx hb dX11_line_31 rfl hl (by decide) rfl (fun ls hl => ?_)
        refine lv_iload_n hx hb dX11_line_32 rfl (lv_at hl 0 rfl) ?_
        refine r_iconst hx hb dX11_line_33 ?_
        refine r_icmp_ne (tgt := 40) hx hb dX11_line_34 (by decide) g7 (by decide) (fun b8 => ?_) (fun b8 => ?_)
        · have hv := hv.1 b8
          refine lv_aload_n hx hb dX11_line_40 rfl (lv_at hl 1 rfl) ?_
          refine gf_X11_26 hx hb hC hw 155 (gX_155 τ ad M7) rfl dX11_line_41 ?_
          refine gf_X11_230 hx hb hC hw 1 (gS_X (by decide) τ ad M7) rfl dX11_line_44 ?_
          refine lv_iload_n hx hb dX11_line_47 rfl (lv_at hl 0 rfl) ?_
          obtain ⟨c9, hv⟩ := hv
          obtain ⟨c10, hv⟩ := hv
          refine r_iald hx hb hC hw 2 (gI_X (isS_f0 (by decide)) τ ad M7) c9 c10 (by decide) dX11_line_48 ?_
          refine r_top (fun x11 e11 => ?_)
          have g11 : iR x11 := by rw [e11]; exact hM.get (isS_f0 (by decide)).pos _
          have hv := hv x11 e11 g11
          refine lv_istore_n (lv' := [(1, .int (iI x11)), (3, .int (iI x7)), (0, .ref (ad 155)), (2, .int (iI v2))]) hx hb dX11_line_49 rfl hl (by decide) rfl (fun ls hl => ?_)
          refine lv_aload_n hx hb dX11_line_50 rfl (lv_at hl 2 rfl) ?_
          refine gf_X11_66 hx hb hC hw 155 (gX_155 τ ad M7) rfl dX11_line_51 ?_
          refine lv_iload_n hx hb dX11_line_54 rfl (lv_at hl 1 rfl) ?_
          refine r_i2l hx hb dX11_line_55 g7 ?_
          refine k_cVv (wq_X τ ad) hx hb hml hC hLS hA hw hl.1 (mX4_add l D τ ad sA sV _ x7 (iR_lR g7) M7 hM _ hv) kX4_add ml_X11_356 rfl (gX_167 τ ad M7) rfl rfl (Nat.le_of_ble_eq_true rfl) (rm_ok (by decide) (by decide)) ⟨Nat.zero_le _, Nat.zero_le _⟩ dX11_line_56 (fun M12 H locs hM hv hw => ?_)
          refine r_iinc (v := (v2 + 1)) (lv' := [(2, .int (iI (v2 + 1))), (1, .int (iI x11)), (3, .int (iI x7)), (0, .ref (ad 155))]) hx hb dX11_line_59 hl (k := 3) rfl rfl (by decide) rfl (fun ls hl => ?_)
          refine lv_goto (tgt := 17) hx hb dX11_line_62 (by decide) ?_
          exact ih x11 (v2 + 1) M12 _ _ _ hM hv hw (lv_sub hl [3, 1, 0] rfl)
        · have hv := hv.2 b8
          refine lv_goto (tgt := 65) hx hb dX11_line_37 (by decide) ?_
          refine lv_aload_n hx hb dX11_line_65 rfl (lv_at hl 1 rfl) ?_
          refine gf_X11_66 hx hb hC hw 155 (gX_155 τ ad M7) rfl dX11_line_66 ?_
          refine gf_X11_359 hx hb hC hw 167 (gX_167 τ ad M7) rfl dX11_line_69 ?_
          refine r_top (fun x13 e13 => ?_)
          have g13 : iR x13 := by rw [e13]; exact hM.get (by decide) _
          have hv := hv x13 e13 g13
          exact k_iret (wq_X τ ad) hx hb hr hlk hw hM g13 hv dX11_line_72
  refine lv_aload_n hx hb dX11_line_0 rfl (lv_at hl 0 rfl) ?_
  refine gf_X11_66 hx hb hC hw 155 (gX_155 τ ad M) rfl dX11_line_1 ?_
  refine k_cVv (wq_X τ ad) hx hb hml hC hLS hA hw hl.1 (mX4_clear l D τ ad sA sV _   M hM _ hv) kX4_clear ml_X11_349 rfl (gX_167 τ ad M) rfl rfl (Nat.le_of_ble_eq_true rfl) (rm_ok (by decide) (by decide)) ⟨Nat.zero_le _, Nat.zero_le _⟩ dX11_line_4 (fun M1 H locs hM hv hw => ?_)
  refine lv_aload_n hx hb dX11_line_7 rfl (lv_at hl 0 rfl) ?_
  refine gf_X11_19 hx hb hC hw 155 (gX_155 τ ad M1) rfl dX11_line_8 ?_
  refine gf_X11_350 hx hb hC hw 158 (gX_158 τ ad M1) rfl dX11_line_11 ?_
  refine r_top (fun x2 e2 => ?_)
  have g2 : iR x2 := by rw [e2]; exact hM.get (by decide) _
  have hv := hv x2 e2 g2
  refine lv_istore_n (lv' := [(1, .int (iI x2)), (0, .ref (ad 155))]) hx hb dX11_line_14 rfl hl (by decide) rfl (fun ls hl => ?_)
  refine r_iconst hx hb dX11_line_15 ?_
  refine lv_istore_n (lv' := [(2, .int (iI 0)), (1, .int (iI x2)), (0, .ref (ad 155))]) hx hb dX11_line_16 rfl hl (by decide) rfl (fun ls hl => ?_)
  obtain ⟨n14, hv⟩ := hv
  refine L17  n14 x2 0 M1 _ _ _ hM hv hw (lv_sub hl [2, 1, 0] rfl)
set_option maxHeartbeats 4000000 in
set_option maxRecDepth 100000 in
theorem mX11_ahead (l : Launch) (D : va_G) (τ : Nat → ClassId) (ad : Nat → Nat) (sA sV : Nat → Nat) (sz : Nat) (p1 : Int) (hp1 : iR p1) (M : Mem) (hM : MR M) (Q : Int → Mem → Prop) (hv : qX11_ahead p1 M Q) : Met l yX11_ahead (lw_w yX11_ahead cX11_ahead 3 (some .int)) (rmk 6 0 0) (kPc D τ sA sV (WX τ ad M) sz [.ref (ad 155), .int (iI p1)]) (gQi D (EQi (WX τ ad) MR Q) (va_A (WX τ ad M) sz)) 0 0 (va_A (WX τ ad M) sz) := by
  refine k_met (ret := (some .int)) (Qc := gQi D (EQi (WX τ ad) MR Q)) (by decide +kernel) (Nat.le_of_ble_eq_true rfl) ?_
  intro p e s m args below meth c A ls hx hb hml hr hlk hnm hC hLS hA hw hl
  have hC : cx D τ s m args RX11 := hC
  have hl : lv_has ls 3 [(0, .ref (ad 155)), (1, .int (iI p1))] := hl
  unfold qX11_ahead at hv
  have L48 : ∀ (n : Nat) (v2 : Int) (M : Mem) (H : Heap) (locs : List Loc) (ls : Array Slot), MR M → qX11_ahead_L48 p1  Q n v2 M → wS D A s.heap (WX τ ad M) H locs → lv_has ls 3 [(0, .ref (ad 155)), (2, .int (iI v2))] → W p l e (rmk 6 0 0) s m args below meth c H locs 0 0 (MQ below (gQi D (EQi (WX τ ad) MR Q) A) args s 0 0 A) (F0 m 48 ls []) := by
    intro n
    induction n with
    | zero => intro v2 M H locs ls hM hv; rw [qX11_ahead_L48] at hv; exact hv.elim
    | succ n ih =>
      intro v2 M H locs ls hM hv hw hl
      rw [qX11_ahead_L48] at hv
      refine lv_iload_n hx hb dX11_ahead_48 rfl (lv_at hl 1 rfl) ?_
      refine lv_aload_n hx hb dX11_ahead_49 rfl (lv_at hl 0 rfl) ?_
      refine gf_X11_30 hx hb hC hw 155 (gX_155 τ ad M) rfl dX11_ahead_50 ?_
      refine gf_X11_176 hx hb hC hw 8 (gS_X (by decide) τ ad M) rfl dX11_ahead_53 ?_
      refine r_top (fun x7 e7 => ?_)
      have g7 : iR x7 := by rw [e7]; exact hM.get (by decide) _
      have hv := hv x7 e7 g7
      obtain ⟨c8, hv⟩ := hv
      refine r_icmp_ge (tgt := 82) hx hb dX11_ahead_56 (by decide) c8 g7 (fun b9 => ?_) (fun b9 => ?_)
      · have hv := hv.1 b9
        refine lv_aload_n hx hb dX11_ahead_82 rfl (lv_at hl 0 rfl) ?_
        refine gf_X11_30 hx hb hC hw 155 (gX_155 τ ad M) rfl dX11_ahead_83 ?_
        refine gf_X11_302 hx hb hC hw 8 (gS_X (by decide) τ ad M) rfl dX11_ahead_86 ?_
        refine r_top (fun x10 e10 => ?_)
        have g10 : iR x10 := by rw [e10]; exact hM.get (by decide) _
        have hv := hv x10 e10 g10
        exact k_iret (wq_X τ ad) hx hb hr hlk hw hM g10 hv dX11_ahead_89
      · have hv := hv.2 b9
        refine lv_aload_n hx hb dX11_ahead_59 rfl (lv_at hl 0 rfl) ?_
        refine gf_X11_66 hx hb hC hw 155 (gX_155 τ ad M) rfl dX11_ahead_60 ?_
        refine lv_aload_n hx hb dX11_ahead_63 rfl (lv_at hl 0 rfl) ?_
        refine gf_X11_30 hx hb hC hw 155 (gX_155 τ ad M) rfl dX11_ahead_64 ?_
        refine gf_X11_230 hx hb hC hw 8 (gS_X (by decide) τ ad M) rfl dX11_ahead_67 ?_
        refine lv_iload_n hx hb dX11_ahead_70 rfl (lv_at hl 1 rfl) ?_
        obtain ⟨c11, hv⟩ := hv
        obtain ⟨c12, hv⟩ := hv
        refine r_iald hx hb hC hw 9 (gI_X (isS_f0 (by decide)) τ ad M) c11 c12 (by decide) dX11_ahead_71 ?_
        refine r_top (fun x13 e13 => ?_)
        have g13 : iR x13 := by rw [e13]; exact hM.get (isS_f0 (by decide)).pos _
        have hv := hv x13 e13 g13
        refine r_i2l hx hb dX11_ahead_72 g13 ?_
        refine k_cVv (wq_X τ ad) hx hb hml hC hLS hA hw hl.1 (mX4_add l D τ ad sA sV _ x13 (iR_lR g13) M hM _ hv) kX4_add ml_X11_356 rfl (gX_167 τ ad M) rfl rfl (Nat.le_of_ble_eq_true rfl) (rm_ok (by decide) (by decide)) ⟨Nat.zero_le _, Nat.zero_le _⟩ dX11_ahead_73 (fun M14 H locs hM hv hw => ?_)
        refine r_iinc (v := (v2 + 1)) (lv' := [(2, .int (iI (v2 + 1))), (0, .ref (ad 155))]) hx hb dX11_ahead_76 hl (k := 1) rfl rfl (by decide) rfl (fun ls hl => ?_)
        refine lv_goto (tgt := 48) hx hb dX11_ahead_79 (by decide) ?_
        exact ih (v2 + 1) M14 _ _ _ hM hv hw (lv_sub hl [1, 0] rfl)
  refine lv_iload_n hx hb dX11_ahead_0 rfl (lv_at hl 1 rfl) ?_
  refine r_if_lt (tgt := 10) hx hb dX11_ahead_1 (by decide) hp1  (fun b1 => ?_) (fun b1 => ?_)
  · have hv := hv.1 b1
    refine r_iconst hx hb dX11_ahead_10 ?_
    exact k_iret (wq_X τ ad) hx hb hr hlk hw hM (by decide) hv dX11_ahead_11
  · have hv := hv.2 b1
    refine lv_iload_n hx hb dX11_ahead_4 rfl (lv_at hl 1 rfl) ?_
    refine r_bipush hx hb dX11_ahead_5 (by decide +kernel) ?_
    refine r_icmp_le (tgt := 12) hx hb dX11_ahead_7 (by decide) hp1 (by decide) (fun b2 => ?_) (fun b2 => ?_)
    · have hv := hv.1 b2
      refine lv_aload_n hx hb dX11_ahead_12 rfl (lv_at hl 0 rfl) ?_
      refine gf_X11_30 hx hb hC hw 155 (gX_155 τ ad M) rfl dX11_ahead_13 ?_
      refine lv_aload_n hx hb dX11_ahead_16 rfl (lv_at hl 0 rfl) ?_
      refine gf_X11_26 hx hb hC hw 155 (gX_155 τ ad M) rfl dX11_ahead_17 ?_
      refine k_cVv (wq_X τ ad) hx hb hml hC hLS hA hw hl.1 (mX6_copyFrom l D τ ad sA sV _ 8 1 (by decide) (by decide) M hM _ hv) kX6_copyFrom ml_X11_153 rfl (gS_X (by decide) τ ad M) rfl rfl (Nat.le_of_ble_eq_true rfl) (rm_ok (by decide) (by decide)) ⟨Nat.zero_le _, Nat.zero_le _⟩ dX11_ahead_20 (fun M3 H locs hM hv hw => ?_)
      refine lv_aload_n hx hb dX11_ahead_23 rfl (lv_at hl 0 rfl) ?_
      refine gf_X11_44 hx hb hC hw 155 (gX_155 τ ad M3) rfl dX11_ahead_24 ?_
      refine lv_aload_n hx hb dX11_ahead_27 rfl (lv_at hl 0 rfl) ?_
      refine gf_X11_30 hx hb hC hw 155 (gX_155 τ ad M3) rfl dX11_ahead_28 ?_
      refine lv_aload_n hx hb dX11_ahead_31 rfl (lv_at hl 0 rfl) ?_
      refine gf_X11_105 hx hb hC hw 155 (gX_155 τ ad M3) rfl dX11_ahead_32 ?_
      obtain ⟨c4, hv⟩ := hv
      refine lv_iload_n hx hb dX11_ahead_35 rfl (lv_at hl 1 rfl) ?_
      refine k_cVv (wq_X τ ad) hx hb hml hC hLS hA hw hl.1 (mX10_walk l D τ ad sA sV _ 8 (M3 155 16).toNat p1 (by decide) c4 hp1 M3 hM _ hv) kX10_walk ml_X11_288 rfl (gX_160 τ ad M3) rfl rfl (Nat.le_of_ble_eq_true rfl) (rm_ok (by decide) (by decide)) ⟨Nat.zero_le _, Nat.zero_le _⟩ dX11_ahead_36 (fun M5 H locs hM hv hw => ?_)
      refine lv_aload_n hx hb dX11_ahead_39 rfl (lv_at hl 0 rfl) ?_
      refine gf_X11_66 hx hb hC hw 155 (gX_155 τ ad M5) rfl dX11_ahead_40 ?_
      refine k_cVv (wq_X τ ad) hx hb hml hC hLS hA hw hl.1 (mX4_clear l D τ ad sA sV _   M5 hM _ hv) kX4_clear ml_X11_349 rfl (gX_167 τ ad M5) rfl rfl (Nat.le_of_ble_eq_true rfl) (rm_ok (by decide) (by decide)) ⟨Nat.zero_le _, Nat.zero_le _⟩ dX11_ahead_43 (fun M6 H locs hM hv hw => ?_)
      refine r_iconst hx hb dX11_ahead_46 ?_
      refine lv_istore_n (lv' := [(2, .int (iI 0)), (0, .ref (ad 155)), (1, .int (iI p1))]) hx hb dX11_ahead_47 rfl hl (by decide) rfl (fun ls hl => ?_)
      obtain ⟨n15, hv⟩ := hv
      refine L48  n15 0 M6 _ _ _ hM hv hw (lv_sub hl [1, 0] rfl)
    · have hv := hv.2 b2
      refine r_iconst hx hb dX11_ahead_10 ?_
      exact k_iret (wq_X τ ad) hx hb hr hlk hw hM (by decide) hv dX11_ahead_11
set_option maxHeartbeats 4000000 in
set_option maxRecDepth 100000 in
theorem mX4_tellOne (l : Launch) (D : va_G) (τ : Nat → ClassId) (ad : Nat → Nat) (sA sV : Nat → Nat) (sz : Nat) (p1 : Int) (hp1 : lR p1) (M : Mem) (hM : MR M) (Q : Mem → Prop) (hv : qX4_tellOne p1 M Q) : Met l yX4_tellOne (lw_w yX4_tellOne cX4_tellOne 3 none) (rmk 2 0 0) (kPc D τ sA sV (WX τ ad M) sz [.ref (ad 167), .long (lI p1)]) (gQv D (EQv (WX τ ad) MR Q) (va_A (WX τ ad M) sz)) 0 0 (va_A (WX τ ad M) sz) := by
  refine k_met (ret := none) (Qc := gQv D (EQv (WX τ ad) MR Q)) (by decide +kernel) (Nat.le_of_ble_eq_true rfl) ?_
  intro p e s m args below meth c A ls hx hb hml hr hlk hnm hC hLS hA hw hl
  have hC : cx D τ s m args RX4 := hC
  have hl : lv_has ls 3 [(0, .ref (ad 167)), (1, .long (lI p1))] := hl
  unfold qX4_tellOne at hv
  refine lv_aload_n hx hb dX4_tellOne_0 rfl (lv_at hl 0 rfl) ?_
  refine k_cVv (wq_X τ ad) hx hb hml hC hLS hA hw hl.1 (mX4_clear l D τ ad sA sV _   M hM _ hv) kX4_clear ml_X4_19 rfl (gX_167 τ ad M) rfl rfl (Nat.le_of_ble_eq_true rfl) (rm_ok (by decide) (by decide)) ⟨Nat.zero_le _, Nat.zero_le _⟩ dX4_tellOne_1 (fun M1 H locs hM hv hw => ?_)
  refine lv_aload_n hx hb dX4_tellOne_4 rfl (lv_at hl 0 rfl) ?_
  refine lv_lload_n hx hb dX4_tellOne_5 rfl (lv_at hl 1 rfl) ?_
  refine k_cVv (wq_X τ ad) hx hb hml hC hLS hA hw hl.1 (mX4_add l D τ ad sA sV _ p1 hp1 M1 hM _ hv) kX4_add ml_X4_22 rfl (gX_167 τ ad M1) rfl rfl (Nat.le_of_ble_eq_true rfl) (rm_ok (by decide) (by decide)) ⟨Nat.zero_le _, Nat.zero_le _⟩ dX4_tellOne_6 (fun M2 H locs hM hv hw => ?_)
  exact k_vret (wq_X τ ad) hx hb hr hlk hw hM hv dX4_tellOne_9
set_option maxHeartbeats 4000000 in
set_option maxRecDepth 100000 in
theorem mX11_arrives (l : Launch) (D : va_G) (τ : Nat → ClassId) (ad : Nat → Nat) (sA sV : Nat → Nat) (sz : Nat) (p1 : Int) (hp1 : iR p1) (M : Mem) (hM : MR M) (Q : Int → Mem → Prop) (hv : qX11_arrives p1 M Q) : Met l yX11_arrives (lw_w yX11_arrives cX11_arrives 3 (some .int)) (rmk 5 0 0) (kPc D τ sA sV (WX τ ad M) sz [.ref (ad 155), .int (iI p1)]) (gQi D (EQi (WX τ ad) MR Q) (va_A (WX τ ad M) sz)) 0 0 (va_A (WX τ ad M) sz) := by
  refine k_met (ret := (some .int)) (Qc := gQi D (EQi (WX τ ad) MR Q)) (by decide +kernel) (Nat.le_of_ble_eq_true rfl) ?_
  intro p e s m args below meth c A ls hx hb hml hr hlk hnm hC hLS hA hw hl
  have hC : cx D τ s m args RX11 := hC
  have hl : lv_has ls 3 [(0, .ref (ad 155)), (1, .int (iI p1))] := hl
  unfold qX11_arrives at hv
  have L26 : ∀ (X65 : Int → Mem → Prop), (∀ (v2 : Int) (M : Mem) (H : Heap) (locs : List Loc) (ls : Array Slot), MR M → X65 v2 M → wS D A s.heap (WX τ ad M) H locs → lv_has ls 3 [(0, .ref (ad 155)), (1, .int (iI p1)), (2, .int (iI v2))] → W p l e (rmk 5 0 0) s m args below meth c H locs 0 0 (MQ below (gQi D (EQi (WX τ ad) MR Q) A) args s 0 0 A) (F0 m 65 ls [])) → ∀ (n : Nat) (v2 : Int) (M : Mem) (H : Heap) (locs : List Loc) (ls : Array Slot), MR M → qX11_arrives_L26 p1 X65 Q n v2 M → wS D A s.heap (WX τ ad M) H locs → lv_has ls 3 [(0, .ref (ad 155)), (1, .int (iI p1)), (2, .int (iI v2))] → W p l e (rmk 5 0 0) s m args below meth c H locs 0 0 (MQ below (gQi D (EQi (WX τ ad) MR Q) A) args s 0 0 A) (F0 m 26 ls []) := by
    intro X65 hX65 n
    induction n with
    | zero => intro v2 M H locs ls hM hv; rw [qX11_arrives_L26] at hv; exact hv.elim
    | succ n ih =>
      intro v2 M H locs ls hM hv hw hl
      rw [qX11_arrives_L26] at hv
      refine lv_iload_n hx hb dX11_arrives_26 rfl (lv_at hl 2 rfl) ?_
      refine r_sipush hx hb dX11_arrives_27 (by decide +kernel) ?_
      obtain ⟨c4, hv⟩ := hv
      refine r_icmp_ge (tgt := 65) hx hb dX11_arrives_30 (by decide) c4 (by decide) (fun b5 => ?_) (fun b5 => ?_)
      · have hv := hv.1 b5
        exact hX65 v2 M _ _ _ hM hv hw (lv_sub hl [0, 1, 2] rfl)
      · have hv := hv.2 b5
        refine lv_aload_n hx hb dX11_arrives_33 rfl (lv_at hl 0 rfl) ?_
        refine gf_X11_30 hx hb hC hw 155 (gX_155 τ ad M) rfl dX11_arrives_34 ?_
        refine lv_iload_n hx hb dX11_arrives_37 rfl (lv_at hl 1 rfl) ?_
        refine k_cVz (wq_X τ ad) hx hb hml hC hLS hA hw hl.1 (mX6_hasArrived l D τ ad sA sV _ 8 p1 (by decide) hp1 M hM _ hv) kX6_hasArrived ml_X11_255 rfl (gS_X (by decide) τ ad M) rfl rfl (Nat.le_of_ble_eq_true rfl) (rm_ok (by decide) (by decide)) ⟨Nat.zero_le _, Nat.zero_le _⟩ dX11_arrives_38 (fun x6 M6 H locs g6 z6 hM hv hw => ?_)
        have hv := hv g6 z6
        refine r_if_ne (tgt := 65) hx hb dX11_arrives_41 (by decide) g6  (fun b7 => ?_) (fun b7 => ?_)
        · have hv := hv.1 b7
          exact hX65 v2 M6 _ _ _ hM hv hw (lv_sub hl [0, 1, 2] rfl)
        · have hv := hv.2 b7
          refine lv_aload_n hx hb dX11_arrives_44 rfl (lv_at hl 0 rfl) ?_
          refine gf_X11_44 hx hb hC hw 155 (gX_155 τ ad M6) rfl dX11_arrives_45 ?_
          refine lv_aload_n hx hb dX11_arrives_48 rfl (lv_at hl 0 rfl) ?_
          refine gf_X11_30 hx hb hC hw 155 (gX_155 τ ad M6) rfl dX11_arrives_49 ?_
          refine lv_aload_n hx hb dX11_arrives_52 rfl (lv_at hl 0 rfl) ?_
          refine gf_X11_105 hx hb hC hw 155 (gX_155 τ ad M6) rfl dX11_arrives_53 ?_
          obtain ⟨c8, hv⟩ := hv
          refine k_cVv (wq_X τ ad) hx hb hml hC hLS hA hw hl.1 (mX10_advance l D τ ad sA sV _ 8 (M6 155 16).toNat (by decide) c8 M6 hM _ hv) kX10_advance ml_X11_362 rfl (gX_160 τ ad M6) rfl rfl (Nat.le_of_ble_eq_true rfl) (rm_ok (by decide) (by decide)) ⟨Nat.zero_le _, Nat.zero_le _⟩ dX11_arrives_56 (fun M9 H locs hM hv hw => ?_)
          refine r_iinc (v := (v2 + 1)) (lv' := [(2, .int (iI (v2 + 1))), (0, .ref (ad 155)), (1, .int (iI p1))]) hx hb dX11_arrives_59 hl (k := 2) rfl rfl (by decide) rfl (fun ls hl => ?_)
          refine lv_goto (tgt := 26) hx hb dX11_arrives_62 (by decide) ?_
          exact ih (v2 + 1) M9 _ _ _ hM hv hw (lv_sub hl [1, 2, 0] rfl)
  have J65 : ∀ (v2 : Int) (M : Mem) (H : Heap) (locs : List Loc) (ls : Array Slot), MR M → qX11_arrives_J65 p1 Q v2 M → wS D A s.heap (WX τ ad M) H locs → lv_has ls 3 [(0, .ref (ad 155)), (1, .int (iI p1)), (2, .int (iI v2))] → W p l e (rmk 5 0 0) s m args below meth c H locs 0 0 (MQ below (gQi D (EQi (WX τ ad) MR Q) A) args s 0 0 A) (F0 m 65 ls []) := by
    intro v2 M H locs ls hM hv hw hl
    unfold qX11_arrives_J65 at hv
    refine lv_aload_n hx hb dX11_arrives_65 rfl (lv_at hl 0 rfl) ?_
    refine gf_X11_30 hx hb hC hw 155 (gX_155 τ ad M) rfl dX11_arrives_66 ?_
    refine lv_iload_n hx hb dX11_arrives_69 rfl (lv_at hl 1 rfl) ?_
    refine k_cVz (wq_X τ ad) hx hb hml hC hLS hA hw hl.1 (mX6_hasArrived l D τ ad sA sV _ 8 p1 (by decide) hp1 M hM _ hv) kX6_hasArrived ml_X11_255 rfl (gS_X (by decide) τ ad M) rfl rfl (Nat.le_of_ble_eq_true rfl) (rm_ok (by decide) (by decide)) ⟨Nat.zero_le _, Nat.zero_le _⟩ dX11_arrives_70 (fun x11 M11 H locs g11 z11 hM hv hw => ?_)
    have hv := hv g11 z11
    refine r_if_ne (tgt := 79) hx hb dX11_arrives_73 (by decide) g11  (fun b12 => ?_) (fun b12 => ?_)
    · have hv := hv.1 b12
      refine lv_aload_n hx hb dX11_arrives_79 rfl (lv_at hl 0 rfl) ?_
      refine gf_X11_66 hx hb hC hw 155 (gX_155 τ ad M11) rfl dX11_arrives_80 ?_
      refine lv_aload_n hx hb dX11_arrives_83 rfl (lv_at hl 0 rfl) ?_
      refine gf_X11_30 hx hb hC hw 155 (gX_155 τ ad M11) rfl dX11_arrives_84 ?_
      refine gf_X11_234 hx hb hC hw 8 (gS_X (by decide) τ ad M11) rfl dX11_arrives_87 ?_
      refine lv_iload_n hx hb dX11_arrives_90 rfl (lv_at hl 1 rfl) ?_
      obtain ⟨c13, hv⟩ := hv
      obtain ⟨c14, hv⟩ := hv
      refine r_iald hx hb hC hw 10 (gI_X (isS_f1 (by decide)) τ ad M11) c13 c14 (by decide) dX11_arrives_91 ?_
      refine r_top (fun x15 e15 => ?_)
      have g15 : iR x15 := by rw [e15]; exact hM.get (isS_f1 (by decide)).pos _
      have hv := hv x15 e15 g15
      refine r_i2l hx hb dX11_arrives_92 g15 ?_
      refine k_cVv (wq_X τ ad) hx hb hml hC hLS hA hw hl.1 (mX4_tellOne l D τ ad sA sV _ x15 (iR_lR g15) M11 hM _ hv) kX4_tellOne ml_X11_366 rfl (gX_167 τ ad M11) rfl rfl (Nat.le_of_ble_eq_true rfl) (rm_ok (by decide) (by decide)) ⟨Nat.zero_le _, Nat.zero_le _⟩ dX11_arrives_93 (fun M16 H locs hM hv hw => ?_)
      refine lv_iload_n hx hb dX11_arrives_96 rfl (lv_at hl 2 rfl) ?_
      obtain ⟨c17, hv⟩ := hv
      exact k_iret (wq_X τ ad) hx hb hr hlk hw hM c17 hv dX11_arrives_97
    · have hv := hv.2 b12
      refine r_bipush hx hb dX11_arrives_76 (by decide +kernel) ?_
      exact k_iret (wq_X τ ad) hx hb hr hlk hw hM (by decide) hv dX11_arrives_78
  refine lv_aload_n hx hb dX11_arrives_0 rfl (lv_at hl 0 rfl) ?_
  refine gf_X11_26 hx hb hC hw 155 (gX_155 τ ad M) rfl dX11_arrives_1 ?_
  refine lv_iload_n hx hb dX11_arrives_4 rfl (lv_at hl 1 rfl) ?_
  refine k_cVz (wq_X τ ad) hx hb hml hC hLS hA hw hl.1 (mX6_isHearse l D τ ad sA sV _ 1 p1 (by decide) hp1 M hM _ hv) kX6_isHearse ml_X11_220 rfl (gS_X (by decide) τ ad M) rfl rfl (Nat.le_of_ble_eq_true rfl) (rm_ok (by decide) (by decide)) ⟨Nat.zero_le _, Nat.zero_le _⟩ dX11_arrives_5 (fun x1 M1 H locs g1 z1 hM hv hw => ?_)
  have hv := hv g1 z1
  refine r_if_ne (tgt := 13) hx hb dX11_arrives_8 (by decide) g1  (fun b2 => ?_) (fun b2 => ?_)
  · have hv := hv.1 b2
    refine lv_aload_n hx hb dX11_arrives_13 rfl (lv_at hl 0 rfl) ?_
    refine gf_X11_30 hx hb hC hw 155 (gX_155 τ ad M1) rfl dX11_arrives_14 ?_
    refine lv_aload_n hx hb dX11_arrives_17 rfl (lv_at hl 0 rfl) ?_
    refine gf_X11_26 hx hb hC hw 155 (gX_155 τ ad M1) rfl dX11_arrives_18 ?_
    refine k_cVv (wq_X τ ad) hx hb hml hC hLS hA hw hl.1 (mX6_copyFrom l D τ ad sA sV _ 8 1 (by decide) (by decide) M1 hM _ hv) kX6_copyFrom ml_X11_153 rfl (gS_X (by decide) τ ad M1) rfl rfl (Nat.le_of_ble_eq_true rfl) (rm_ok (by decide) (by decide)) ⟨Nat.zero_le _, Nat.zero_le _⟩ dX11_arrives_21 (fun M3 H locs hM hv hw => ?_)
    refine r_iconst hx hb dX11_arrives_24 ?_
    refine lv_istore_n (lv' := [(2, .int (iI 0)), (0, .ref (ad 155)), (1, .int (iI p1))]) hx hb dX11_arrives_25 rfl hl (by decide) rfl (fun ls hl => ?_)
    obtain ⟨n10, hv⟩ := hv
    refine L26 _ ?_ n10 0 M3 _ _ _ hM hv hw (lv_sub hl [1, 2, 0] rfl)
    · intro v2 M H locs ls hM hv hw hl
      exact J65 v2 M _ _ _ hM hv hw (lv_sub hl [0, 1, 2] rfl)
  · have hv := hv.2 b2
    refine r_iconst hx hb dX11_arrives_11 ?_
    exact k_iret (wq_X τ ad) hx hb hr hlk hw hM (by decide) hv dX11_arrives_12
set_option maxHeartbeats 4000000 in
set_option maxRecDepth 100000 in
theorem mX11_jam (l : Launch) (D : va_G) (τ : Nat → ClassId) (ad : Nat → Nat) (sA sV : Nat → Nat) (sz : Nat) (p1 : Int) (hp1 : iR p1) (M : Mem) (hM : MR M) (Q : Int → Mem → Prop) (hv : qX11_jam p1 M Q) : Met l yX11_jam (lw_w yX11_jam cX11_jam 4 (some .int)) (rmk 6 0 0) (kPc D τ sA sV (WX τ ad M) sz [.ref (ad 155), .int (iI p1)]) (gQi D (EQi (WX τ ad) MR Q) (va_A (WX τ ad M) sz)) 0 0 (va_A (WX τ ad M) sz) := by
  refine k_met (ret := (some .int)) (Qc := gQi D (EQi (WX τ ad) MR Q)) (by decide +kernel) (Nat.le_of_ble_eq_true rfl) ?_
  intro p e s m args below meth c A ls hx hb hml hr hlk hnm hC hLS hA hw hl
  have hC : cx D τ s m args RX11 := hC
  have hl : lv_has ls 4 [(0, .ref (ad 155)), (1, .int (iI p1))] := hl
  unfold qX11_jam at hv
  have L44 : ∀ (X84 : Int → Mem → Prop), (∀ (v2 : Int) (M : Mem) (H : Heap) (locs : List Loc) (ls : Array Slot), MR M → X84 v2 M → wS D A s.heap (WX τ ad M) H locs → lv_has ls 4 [(0, .ref (ad 155)), (2, .int (iI v2))] → W p l e (rmk 6 0 0) s m args below meth c H locs 0 0 (MQ below (gQi D (EQi (WX τ ad) MR Q) A) args s 0 0 A) (F0 m 84 ls [])) → ∀ (n : Nat) (v2 : Int) (v3 : Int) (M : Mem) (H : Heap) (locs : List Loc) (ls : Array Slot), MR M → qX11_jam_L44 p1 X84 Q n v2 v3 M → wS D A s.heap (WX τ ad M) H locs → lv_has ls 4 [(0, .ref (ad 155)), (2, .int (iI v2)), (3, .int (iI v3))] → W p l e (rmk 6 0 0) s m args below meth c H locs 0 0 (MQ below (gQi D (EQi (WX τ ad) MR Q) A) args s 0 0 A) (F0 m 44 ls []) := by
    intro X84 hX84 n
    induction n with
    | zero => intro v2 v3 M H locs ls hM hv; rw [qX11_jam_L44] at hv; exact hv.elim
    | succ n ih =>
      intro v2 v3 M H locs ls hM hv hw hl
      rw [qX11_jam_L44] at hv
      refine lv_iload_n hx hb dX11_jam_44 rfl (lv_at hl 2 rfl) ?_
      refine lv_aload_n hx hb dX11_jam_45 rfl (lv_at hl 0 rfl) ?_
      refine gf_X11_19 hx hb hC hw 155 (gX_155 τ ad M) rfl dX11_jam_46 ?_
      refine gf_X11_350 hx hb hC hw 158 (gX_158 τ ad M) rfl dX11_jam_49 ?_
      refine r_top (fun x6 e6 => ?_)
      have g6 : iR x6 := by rw [e6]; exact hM.get (by decide) _
      have hv := hv x6 e6 g6
      obtain ⟨c7, hv⟩ := hv
      refine r_icmp_ge (tgt := 84) hx hb dX11_jam_52 (by decide) c7 g6 (fun b8 => ?_) (fun b8 => ?_)
      · have hv := hv.1 b8
        exact hX84 v2 M _ _ _ hM hv hw (lv_sub hl [0, 1] rfl)
      · have hv := hv.2 b8
        refine lv_aload_n hx hb dX11_jam_55 rfl (lv_at hl 0 rfl) ?_
        refine gf_X11_44 hx hb hC hw 155 (gX_155 τ ad M) rfl dX11_jam_56 ?_
        refine gf_X11_369 hx hb hC hw 160 (gX_160 τ ad M) rfl dX11_jam_59 ?_
        refine lv_iload_n hx hb dX11_jam_62 rfl (lv_at hl 2 rfl) ?_
        obtain ⟨c9, hv⟩ := hv
        obtain ⟨c10, hv⟩ := hv
        refine r_iald hx hb hC hw 161 (gI_X aX_161 τ ad M) c9 c10 (by decide) dX11_jam_63 ?_
        refine r_top (fun x11 e11 => ?_)
        have g11 : iR x11 := by rw [e11]; exact hM.get aX_161.pos _
        have hv := hv x11 e11 g11
        refine lv_aload_n hx hb dX11_jam_64 rfl (lv_at hl 0 rfl) ?_
        refine gf_X11_44 hx hb hC hw 155 (gX_155 τ ad M) rfl dX11_jam_65 ?_
        refine gf_X11_369 hx hb hC hw 160 (gX_160 τ ad M) rfl dX11_jam_68 ?_
        refine lv_iload_n hx hb dX11_jam_71 rfl (lv_at hl 1 rfl) ?_
        obtain ⟨c12, hv⟩ := hv
        obtain ⟨c13, hv⟩ := hv
        refine r_iald hx hb hC hw 161 (gI_X aX_161 τ ad M) c12 c13 (by decide) dX11_jam_72 ?_
        refine r_top (fun x14 e14 => ?_)
        have g14 : iR x14 := by rw [e14]; exact hM.get aX_161.pos _
        have hv := hv x14 e14 g14
        refine r_icmp_le (tgt := 78) hx hb dX11_jam_73 (by decide) g11 g14 (fun b15 => ?_) (fun b15 => ?_)
        · have hv := hv.1 b15
          refine r_iinc (v := (v3 + 1)) (lv' := [(3, .int (iI (v3 + 1))), (0, .ref (ad 155)), (2, .int (iI v2))]) hx hb dX11_jam_78 hl (k := 2) rfl rfl (by decide) rfl (fun ls hl => ?_)
          refine lv_goto (tgt := 44) hx hb dX11_jam_81 (by decide) ?_
          exact ih v2 (v3 + 1) M _ _ _ hM hv hw (lv_sub hl [1, 2, 0] rfl)
        · have hv := hv.2 b15
          refine lv_iload_n hx hb dX11_jam_76 rfl (lv_at hl 2 rfl) ?_
          refine lv_istore_n (lv' := [(2, .int (iI v3)), (0, .ref (ad 155)), (3, .int (iI v3))]) hx hb dX11_jam_77 rfl hl (by decide) rfl (fun ls hl => ?_)
          refine r_iinc (v := (v3 + 1)) (lv' := [(3, .int (iI (v3 + 1))), (2, .int (iI v3)), (0, .ref (ad 155))]) hx hb dX11_jam_78 hl (k := 2) rfl rfl (by decide) rfl (fun ls hl => ?_)
          refine lv_goto (tgt := 44) hx hb dX11_jam_81 (by decide) ?_
          exact ih v3 (v3 + 1) M _ _ _ hM hv hw (lv_sub hl [2, 1, 0] rfl)
  refine lv_iload_n hx hb dX11_jam_0 rfl (lv_at hl 1 rfl) ?_
  refine r_iconst hx hb dX11_jam_1 ?_
  refine r_icmp_lt (tgt := 11) hx hb dX11_jam_2 (by decide) hp1 (by decide) (fun b1 => ?_) (fun b1 => ?_)
  · have hv := hv.1 b1
    refine r_iconst hx hb dX11_jam_11 ?_
    exact k_iret (wq_X τ ad) hx hb hr hlk hw hM (by decide) hv dX11_jam_12
  · have hv := hv.2 b1
    refine lv_iload_n hx hb dX11_jam_5 rfl (lv_at hl 1 rfl) ?_
    refine r_bipush hx hb dX11_jam_6 (by decide +kernel) ?_
    refine r_icmp_le (tgt := 13) hx hb dX11_jam_8 (by decide) hp1 (by decide) (fun b2 => ?_) (fun b2 => ?_)
    · have hv := hv.1 b2
      refine lv_aload_n hx hb dX11_jam_13 rfl (lv_at hl 0 rfl) ?_
      refine gf_X11_30 hx hb hC hw 155 (gX_155 τ ad M) rfl dX11_jam_14 ?_
      refine lv_aload_n hx hb dX11_jam_17 rfl (lv_at hl 0 rfl) ?_
      refine gf_X11_26 hx hb hC hw 155 (gX_155 τ ad M) rfl dX11_jam_18 ?_
      refine k_cVv (wq_X τ ad) hx hb hml hC hLS hA hw hl.1 (mX6_copyFrom l D τ ad sA sV _ 8 1 (by decide) (by decide) M hM _ hv) kX6_copyFrom ml_X11_153 rfl (gS_X (by decide) τ ad M) rfl rfl (Nat.le_of_ble_eq_true rfl) (rm_ok (by decide) (by decide)) ⟨Nat.zero_le _, Nat.zero_le _⟩ dX11_jam_21 (fun M3 H locs hM hv hw => ?_)
      refine lv_aload_n hx hb dX11_jam_24 rfl (lv_at hl 0 rfl) ?_
      refine gf_X11_44 hx hb hC hw 155 (gX_155 τ ad M3) rfl dX11_jam_25 ?_
      refine lv_aload_n hx hb dX11_jam_28 rfl (lv_at hl 0 rfl) ?_
      refine gf_X11_30 hx hb hC hw 155 (gX_155 τ ad M3) rfl dX11_jam_29 ?_
      refine lv_aload_n hx hb dX11_jam_32 rfl (lv_at hl 0 rfl) ?_
      refine gf_X11_105 hx hb hC hw 155 (gX_155 τ ad M3) rfl dX11_jam_33 ?_
      obtain ⟨c4, hv⟩ := hv
      refine lv_iload_n hx hb dX11_jam_36 rfl (lv_at hl 1 rfl) ?_
      refine k_cVv (wq_X τ ad) hx hb hml hC hLS hA hw hl.1 (mX10_walk l D τ ad sA sV _ 8 (M3 155 16).toNat p1 (by decide) c4 hp1 M3 hM _ hv) kX10_walk ml_X11_288 rfl (gX_160 τ ad M3) rfl rfl (Nat.le_of_ble_eq_true rfl) (rm_ok (by decide) (by decide)) ⟨Nat.zero_le _, Nat.zero_le _⟩ dX11_jam_37 (fun M5 H locs hM hv hw => ?_)
      refine r_iconst hx hb dX11_jam_40 ?_
      refine lv_istore_n (lv' := [(2, .int (iI 0)), (0, .ref (ad 155)), (1, .int (iI p1))]) hx hb dX11_jam_41 rfl hl (by decide) rfl (fun ls hl => ?_)
      refine r_iconst hx hb dX11_jam_42 ?_
      refine lv_istore_n (lv' := [(3, .int (iI 1)), (2, .int (iI 0)), (0, .ref (ad 155)), (1, .int (iI p1))]) hx hb dX11_jam_43 rfl hl (by decide) rfl (fun ls hl => ?_)
      obtain ⟨n16, hv⟩ := hv
      refine L44 _ ?_ n16 0 1 M5 _ _ _ hM hv hw (lv_sub hl [2, 1, 0] rfl)
      · intro v2 M H locs ls hM hv hw hl
        refine lv_aload_n hx hb dX11_jam_84 rfl (lv_at hl 0 rfl) ?_
        refine gf_X11_66 hx hb hC hw 155 (gX_155 τ ad M) rfl dX11_jam_85 ?_
        refine lv_aload_n hx hb dX11_jam_88 rfl (lv_at hl 0 rfl) ?_
        refine gf_X11_44 hx hb hC hw 155 (gX_155 τ ad M) rfl dX11_jam_89 ?_
        refine gf_X11_369 hx hb hC hw 160 (gX_160 τ ad M) rfl dX11_jam_92 ?_
        refine lv_iload_n hx hb dX11_jam_95 rfl (lv_at hl 1 rfl) ?_
        obtain ⟨c17, hv⟩ := hv
        obtain ⟨c18, hv⟩ := hv
        refine r_iald hx hb hC hw 161 (gI_X aX_161 τ ad M) c17 c18 (by decide) dX11_jam_96 ?_
        refine r_top (fun x19 e19 => ?_)
        have g19 : iR x19 := by rw [e19]; exact hM.get aX_161.pos _
        have hv := hv x19 e19 g19
        refine r_i2l hx hb dX11_jam_97 g19 ?_
        refine lv_aload_n hx hb dX11_jam_98 rfl (lv_at hl 0 rfl) ?_
        refine gf_X11_44 hx hb hC hw 155 (gX_155 τ ad M) rfl dX11_jam_99 ?_
        refine gf_X11_292 hx hb hC hw 160 (gX_160 τ ad M) rfl dX11_jam_102 ?_
        refine r_top (fun x20 e20 => ?_)
        have g20 : iR x20 := by rw [e20]; exact hM.get (by decide) _
        have hv := hv x20 e20 g20
        refine r_i2l hx hb dX11_jam_105 g20 ?_
        refine k_cVv (wq_X τ ad) hx hb hml hC hLS hA hw hl.1 (mX4_tellTwo l D τ ad sA sV _ x19 x20 (iR_lR g19) (iR_lR g20) M hM _ hv) kX4_tellTwo ml_X11_298 rfl (gX_167 τ ad M) rfl rfl (Nat.le_of_ble_eq_true rfl) (rm_ok (by decide) (by decide)) ⟨Nat.zero_le _, Nat.zero_le _⟩ dX11_jam_106 (fun M21 H locs hM hv hw => ?_)
        refine lv_iload_n hx hb dX11_jam_109 rfl (lv_at hl 1 rfl) ?_
        obtain ⟨c22, hv⟩ := hv
        exact k_iret (wq_X τ ad) hx hb hr hlk hw hM c22 hv dX11_jam_110
    · have hv := hv.2 b2
      refine r_iconst hx hb dX11_jam_11 ?_
      exact k_iret (wq_X τ ad) hx hb hr hlk hw hM (by decide) hv dX11_jam_12
set_option maxHeartbeats 4000000 in
set_option maxRecDepth 100000 in
theorem mX6_isAheadOf (l : Launch) (D : va_G) (τ : Nat → ClassId) (ad : Nat → Nat) (sA sV : Nat → Nat) (sz : Nat) (k0 : Nat) (p1 : Int) (p2 : Int) (hk0 : isS k0) (hp1 : iR p1) (hp2 : iR p2) (M : Mem) (hM : MR M) (Q : Int → Mem → Prop) (hv : qX6_isAheadOf k0 p1 p2 M Q) : Met l yX6_isAheadOf (lw_w yX6_isAheadOf cX6_isAheadOf 3 (some .boolean)) (rmk 2 0 0) (kPc D τ sA sV (WX τ ad M) sz [.ref (ad k0), .int (iI p1), .int (iI p2)]) (gQi D (EQz (WX τ ad) MR Q) (va_A (WX τ ad M) sz)) 0 0 (va_A (WX τ ad M) sz) := by
  refine k_met (ret := (some .boolean)) (Qc := gQi D (EQz (WX τ ad) MR Q)) (by decide +kernel) (Nat.le_of_ble_eq_true rfl) ?_
  intro p e s m args below meth c A ls hx hb hml hr hlk hnm hC hLS hA hw hl
  have hC : cx D τ s m args RX6 := hC
  have hl : lv_has ls 3 [(0, .ref (ad k0)), (1, .int (iI p1)), (2, .int (iI p2))] := hl
  unfold qX6_isAheadOf at hv
  refine lv_aload_n hx hb dX6_isAheadOf_0 rfl (lv_at hl 0 rfl) ?_
  refine lv_iload_n hx hb dX6_isAheadOf_1 rfl (lv_at hl 1 rfl) ?_
  refine k_cVz (wq_X τ ad) hx hb hml hC hLS hA hw hl.1 (mX6_hasArrived l D τ ad sA sV _ k0 p1 hk0 hp1 M hM _ hv) kX6_hasArrived ml_X6_56 rfl (gS_X hk0 τ ad M) rfl rfl (Nat.le_of_ble_eq_true rfl) (rm_ok (by decide) (by decide)) ⟨Nat.zero_le _, Nat.zero_le _⟩ dX6_isAheadOf_2 (fun x1 M1 H locs g1 z1 hM hv hw => ?_)
  have hv := hv g1 z1
  refine r_if_eq (tgt := 37) hx hb dX6_isAheadOf_5 (by decide) g1  (fun b2 => ?_) (fun b2 => ?_)
  · have hv := hv.1 b2
    refine lv_aload_n hx hb dX6_isAheadOf_37 rfl (lv_at hl 0 rfl) ?_
    refine lv_iload_n hx hb dX6_isAheadOf_38 rfl (lv_at hl 2 rfl) ?_
    refine k_cVz (wq_X τ ad) hx hb hml hC hLS hA hw hl.1 (mX6_hasArrived l D τ ad sA sV _ k0 p2 hk0 hp2 M1 hM _ hv) kX6_hasArrived ml_X6_56 rfl (gS_X hk0 τ ad M1) rfl rfl (Nat.le_of_ble_eq_true rfl) (rm_ok (by decide) (by decide)) ⟨Nat.zero_le _, Nat.zero_le _⟩ dX6_isAheadOf_39 (fun x3 M3 H locs g3 z3 hM hv hw => ?_)
    have hv := hv g3 z3
    refine r_if_ne (tgt := 64) hx hb dX6_isAheadOf_42 (by decide) g3  (fun b4 => ?_) (fun b4 => ?_)
    · have hv := hv.1 b4
      refine r_iconst hx hb dX6_isAheadOf_64 ?_
      exact k_zret (wq_X τ ad) hx hb hr hlk hw hM (by decide) (by decide) hv dX6_isAheadOf_65
    · have hv := hv.2 b4
      refine lv_aload_n hx hb dX6_isAheadOf_45 rfl (lv_at hl 0 rfl) ?_
      refine gf_X6_9 hx hb hC hw k0 (gS_X hk0 τ ad M3) rfl dX6_isAheadOf_46 ?_
      refine lv_iload_n hx hb dX6_isAheadOf_49 rfl (lv_at hl 1 rfl) ?_
      obtain ⟨c5, hv⟩ := hv
      obtain ⟨c6, hv⟩ := hv
      refine r_iald hx hb hC hw (k0 + 1) (gI_X (isS_f0 hk0) τ ad M3) c5 c6 (by decide) dX6_isAheadOf_50 ?_
      refine r_top (fun x7 e7 => ?_)
      have g7 : iR x7 := by rw [e7]; exact hM.get (isS_f0 hk0).pos _
      have hv := hv x7 e7 g7
      refine lv_aload_n hx hb dX6_isAheadOf_51 rfl (lv_at hl 0 rfl) ?_
      refine gf_X6_9 hx hb hC hw k0 (gS_X hk0 τ ad M3) rfl dX6_isAheadOf_52 ?_
      refine lv_iload_n hx hb dX6_isAheadOf_55 rfl (lv_at hl 2 rfl) ?_
      obtain ⟨c8, hv⟩ := hv
      obtain ⟨c9, hv⟩ := hv
      refine r_iald hx hb hC hw (k0 + 1) (gI_X (isS_f0 hk0) τ ad M3) c8 c9 (by decide) dX6_isAheadOf_56 ?_
      refine r_top (fun x10 e10 => ?_)
      have g10 : iR x10 := by rw [e10]; exact hM.get (isS_f0 hk0).pos _
      have hv := hv x10 e10 g10
      refine r_icmp_le (tgt := 64) hx hb dX6_isAheadOf_57 (by decide) g7 g10 (fun b11 => ?_) (fun b11 => ?_)
      · have hv := hv.1 b11
        refine r_iconst hx hb dX6_isAheadOf_64 ?_
        exact k_zret (wq_X τ ad) hx hb hr hlk hw hM (by decide) (by decide) hv dX6_isAheadOf_65
      · have hv := hv.2 b11
        refine r_iconst hx hb dX6_isAheadOf_60 ?_
        refine lv_goto (tgt := 65) hx hb dX6_isAheadOf_61 (by decide) ?_
        exact k_zret (wq_X τ ad) hx hb hr hlk hw hM (by decide) (by decide) hv dX6_isAheadOf_65
  · have hv := hv.2 b2
    refine lv_aload_n hx hb dX6_isAheadOf_8 rfl (lv_at hl 0 rfl) ?_
    refine lv_iload_n hx hb dX6_isAheadOf_9 rfl (lv_at hl 2 rfl) ?_
    refine k_cVz (wq_X τ ad) hx hb hml hC hLS hA hw hl.1 (mX6_hasArrived l D τ ad sA sV _ k0 p2 hk0 hp2 M1 hM _ hv) kX6_hasArrived ml_X6_56 rfl (gS_X hk0 τ ad M1) rfl rfl (Nat.le_of_ble_eq_true rfl) (rm_ok (by decide) (by decide)) ⟨Nat.zero_le _, Nat.zero_le _⟩ dX6_isAheadOf_10 (fun x12 M12 H locs g12 z12 hM hv hw => ?_)
    have hv := hv g12 z12
    refine r_if_eq (tgt := 31) hx hb dX6_isAheadOf_13 (by decide) g12  (fun b13 => ?_) (fun b13 => ?_)
    · have hv := hv.1 b13
      refine r_iconst hx hb dX6_isAheadOf_31 ?_
      refine lv_goto (tgt := 36) hx hb dX6_isAheadOf_32 (by decide) ?_
      exact k_zret (wq_X τ ad) hx hb hr hlk hw hM (by decide) (by decide) hv dX6_isAheadOf_36
    · have hv := hv.2 b13
      refine lv_aload_n hx hb dX6_isAheadOf_16 rfl (lv_at hl 0 rfl) ?_
      refine gf_X6_15 hx hb hC hw k0 (gS_X hk0 τ ad M12) rfl dX6_isAheadOf_17 ?_
      refine lv_iload_n hx hb dX6_isAheadOf_20 rfl (lv_at hl 1 rfl) ?_
      obtain ⟨c14, hv⟩ := hv
      obtain ⟨c15, hv⟩ := hv
      refine r_iald hx hb hC hw (k0 + 2) (gI_X (isS_f1 hk0) τ ad M12) c14 c15 (by decide) dX6_isAheadOf_21 ?_
      refine r_top (fun x16 e16 => ?_)
      have g16 : iR x16 := by rw [e16]; exact hM.get (isS_f1 hk0).pos _
      have hv := hv x16 e16 g16
      refine lv_aload_n hx hb dX6_isAheadOf_22 rfl (lv_at hl 0 rfl) ?_
      refine gf_X6_15 hx hb hC hw k0 (gS_X hk0 τ ad M12) rfl dX6_isAheadOf_23 ?_
      refine lv_iload_n hx hb dX6_isAheadOf_26 rfl (lv_at hl 2 rfl) ?_
      obtain ⟨c17, hv⟩ := hv
      obtain ⟨c18, hv⟩ := hv
      refine r_iald hx hb hC hw (k0 + 2) (gI_X (isS_f1 hk0) τ ad M12) c17 c18 (by decide) dX6_isAheadOf_27 ?_
      refine r_top (fun x19 e19 => ?_)
      have g19 : iR x19 := by rw [e19]; exact hM.get (isS_f1 hk0).pos _
      have hv := hv x19 e19 g19
      refine r_icmp_ge (tgt := 35) hx hb dX6_isAheadOf_28 (by decide) g16 g19 (fun b20 => ?_) (fun b20 => ?_)
      · have hv := hv.1 b20
        refine r_iconst hx hb dX6_isAheadOf_35 ?_
        exact k_zret (wq_X τ ad) hx hb hr hlk hw hM (by decide) (by decide) hv dX6_isAheadOf_36
      · have hv := hv.2 b20
        refine r_iconst hx hb dX6_isAheadOf_31 ?_
        refine lv_goto (tgt := 36) hx hb dX6_isAheadOf_32 (by decide) ?_
        exact k_zret (wq_X τ ad) hx hb hr hlk hw hM (by decide) (by decide) hv dX6_isAheadOf_36
set_option maxHeartbeats 4000000 in
set_option maxRecDepth 100000 in
theorem mX11_passes (l : Launch) (D : va_G) (τ : Nat → ClassId) (ad : Nat → Nat) (sA sV : Nat → Nat) (sz : Nat) (p1 : Int) (p2 : Int) (hp1 : iR p1) (hp2 : iR p2) (M : Mem) (hM : MR M) (Q : Int → Mem → Prop) (hv : qX11_passes p1 p2 M Q) : Met l yX11_passes (lw_w yX11_passes cX11_passes 4 (some .int)) (rmk 5 0 0) (kPc D τ sA sV (WX τ ad M) sz [.ref (ad 155), .int (iI p1), .int (iI p2)]) (gQi D (EQi (WX τ ad) MR Q) (va_A (WX τ ad M) sz)) 0 0 (va_A (WX τ ad M) sz) := by
  refine k_met (ret := (some .int)) (Qc := gQi D (EQi (WX τ ad) MR Q)) (by decide +kernel) (Nat.le_of_ble_eq_true rfl) ?_
  intro p e s m args below meth c A ls hx hb hml hr hlk hnm hC hLS hA hw hl
  have hC : cx D τ s m args RX11 := hC
  have hl : lv_has ls 4 [(0, .ref (ad 155)), (1, .int (iI p1)), (2, .int (iI p2))] := hl
  unfold qX11_passes at hv
  have L88 : ∀ (X121 : Int → Mem → Prop), (∀ (v3 : Int) (M : Mem) (H : Heap) (locs : List Loc) (ls : Array Slot), MR M → X121 v3 M → wS D A s.heap (WX τ ad M) H locs → lv_has ls 4 [(0, .ref (ad 155)), (1, .int (iI p1)), (3, .int (iI v3))] → W p l e (rmk 5 0 0) s m args below meth c H locs 0 0 (MQ below (gQi D (EQi (WX τ ad) MR Q) A) args s 0 0 A) (F0 m 121 ls [])) → ∀ (n : Nat) (v3 : Int) (M : Mem) (H : Heap) (locs : List Loc) (ls : Array Slot), MR M → qX11_passes_L88 p1 p2 X121 Q n v3 M → wS D A s.heap (WX τ ad M) H locs → lv_has ls 4 [(0, .ref (ad 155)), (1, .int (iI p1)), (2, .int (iI p2)), (3, .int (iI v3))] → W p l e (rmk 5 0 0) s m args below meth c H locs 0 0 (MQ below (gQi D (EQi (WX τ ad) MR Q) A) args s 0 0 A) (F0 m 88 ls []) := by
    intro X121 hX121 n
    induction n with
    | zero => intro v3 M H locs ls hM hv; rw [qX11_passes_L88] at hv; exact hv.elim
    | succ n ih =>
      intro v3 M H locs ls hM hv hw hl
      rw [qX11_passes_L88] at hv
      refine lv_iload_n hx hb dX11_passes_88 rfl (lv_at hl 3 rfl) ?_
      refine r_bipush hx hb dX11_passes_89 (by decide +kernel) ?_
      obtain ⟨c18, hv⟩ := hv
      refine r_icmp_gt (tgt := 146) hx hb dX11_passes_91 (by decide) c18 (by decide) (fun b19 => ?_) (fun b19 => ?_)
      · have hv := hv.1 b19
        refine r_bipush hx hb dX11_passes_146 (by decide +kernel) ?_
        exact k_iret (wq_X τ ad) hx hb hr hlk hw hM (by decide) hv dX11_passes_148
      · have hv := hv.2 b19
        refine lv_aload_n hx hb dX11_passes_94 rfl (lv_at hl 0 rfl) ?_
        refine gf_X11_44 hx hb hC hw 155 (gX_155 τ ad M) rfl dX11_passes_95 ?_
        refine lv_aload_n hx hb dX11_passes_98 rfl (lv_at hl 0 rfl) ?_
        refine gf_X11_30 hx hb hC hw 155 (gX_155 τ ad M) rfl dX11_passes_99 ?_
        refine lv_aload_n hx hb dX11_passes_102 rfl (lv_at hl 0 rfl) ?_
        refine gf_X11_105 hx hb hC hw 155 (gX_155 τ ad M) rfl dX11_passes_103 ?_
        obtain ⟨c20, hv⟩ := hv
        refine k_cVv (wq_X τ ad) hx hb hml hC hLS hA hw hl.1 (mX10_advance l D τ ad sA sV _ 8 (M 155 16).toNat (by decide) c20 M hM _ hv) kX10_advance ml_X11_362 rfl (gX_160 τ ad M) rfl rfl (Nat.le_of_ble_eq_true rfl) (rm_ok (by decide) (by decide)) ⟨Nat.zero_le _, Nat.zero_le _⟩ dX11_passes_106 (fun M21 H locs hM hv hw => ?_)
        refine lv_aload_n hx hb dX11_passes_109 rfl (lv_at hl 0 rfl) ?_
        refine gf_X11_30 hx hb hC hw 155 (gX_155 τ ad M21) rfl dX11_passes_110 ?_
        refine lv_iload_n hx hb dX11_passes_113 rfl (lv_at hl 1 rfl) ?_
        refine lv_iload_n hx hb dX11_passes_114 rfl (lv_at hl 2 rfl) ?_
        refine k_cVz (wq_X τ ad) hx hb hml hC hLS hA hw hl.1 (mX6_isAheadOf l D τ ad sA sV _ 8 p1 p2 (by decide) hp1 hp2 M21 hM _ hv) kX6_isAheadOf ml_X11_372 rfl (gS_X (by decide) τ ad M21) rfl rfl (Nat.le_of_ble_eq_true rfl) (rm_ok (by decide) (by decide)) ⟨Nat.zero_le _, Nat.zero_le _⟩ dX11_passes_115 (fun x22 M22 H locs g22 z22 hM hv hw => ?_)
        have hv := hv g22 z22
        refine r_if_eq (tgt := 140) hx hb dX11_passes_118 (by decide) g22  (fun b23 => ?_) (fun b23 => ?_)
        · have hv := hv.1 b23
          refine r_iinc (v := (v3 + 1)) (lv' := [(3, .int (iI (v3 + 1))), (0, .ref (ad 155)), (1, .int (iI p1)), (2, .int (iI p2))]) hx hb dX11_passes_140 hl (k := 3) rfl rfl (by decide) rfl (fun ls hl => ?_)
          refine lv_goto (tgt := 88) hx hb dX11_passes_143 (by decide) ?_
          exact ih (v3 + 1) M22 _ _ _ hM hv hw (lv_sub hl [1, 2, 3, 0] rfl)
        · have hv := hv.2 b23
          exact hX121 v3 M22 _ _ _ hM hv hw (lv_sub hl [0, 1, 3] rfl)
  refine lv_aload_n hx hb dX11_passes_0 rfl (lv_at hl 0 rfl) ?_
  refine gf_X11_26 hx hb hC hw 155 (gX_155 τ ad M) rfl dX11_passes_1 ?_
  refine lv_iload_n hx hb dX11_passes_4 rfl (lv_at hl 1 rfl) ?_
  refine k_cVz (wq_X τ ad) hx hb hml hC hLS hA hw hl.1 (mX6_isHearse l D τ ad sA sV _ 1 p1 (by decide) hp1 M hM _ hv) kX6_isHearse ml_X11_220 rfl (gS_X (by decide) τ ad M) rfl rfl (Nat.le_of_ble_eq_true rfl) (rm_ok (by decide) (by decide)) ⟨Nat.zero_le _, Nat.zero_le _⟩ dX11_passes_5 (fun x1 M1 H locs g1 z1 hM hv hw => ?_)
  have hv := hv g1 z1
  refine r_if_eq (tgt := 27) hx hb dX11_passes_8 (by decide) g1  (fun b2 => ?_) (fun b2 => ?_)
  · have hv := hv.1 b2
    refine r_iconst hx hb dX11_passes_27 ?_
    exact k_iret (wq_X τ ad) hx hb hr hlk hw hM (by decide) hv dX11_passes_28
  · have hv := hv.2 b2
    refine lv_aload_n hx hb dX11_passes_11 rfl (lv_at hl 0 rfl) ?_
    refine gf_X11_26 hx hb hC hw 155 (gX_155 τ ad M1) rfl dX11_passes_12 ?_
    refine lv_iload_n hx hb dX11_passes_15 rfl (lv_at hl 2 rfl) ?_
    refine k_cVz (wq_X τ ad) hx hb hml hC hLS hA hw hl.1 (mX6_isHearse l D τ ad sA sV _ 1 p2 (by decide) hp2 M1 hM _ hv) kX6_isHearse ml_X11_220 rfl (gS_X (by decide) τ ad M1) rfl rfl (Nat.le_of_ble_eq_true rfl) (rm_ok (by decide) (by decide)) ⟨Nat.zero_le _, Nat.zero_le _⟩ dX11_passes_16 (fun x3 M3 H locs g3 z3 hM hv hw => ?_)
    have hv := hv g3 z3
    refine r_if_eq (tgt := 27) hx hb dX11_passes_19 (by decide) g3  (fun b4 => ?_) (fun b4 => ?_)
    · have hv := hv.1 b4
      refine r_iconst hx hb dX11_passes_27 ?_
      exact k_iret (wq_X τ ad) hx hb hr hlk hw hM (by decide) hv dX11_passes_28
    · have hv := hv.2 b4
      refine lv_iload_n hx hb dX11_passes_22 rfl (lv_at hl 1 rfl) ?_
      refine lv_iload_n hx hb dX11_passes_23 rfl (lv_at hl 2 rfl) ?_
      refine r_icmp_ne (tgt := 29) hx hb dX11_passes_24 (by decide) hp1 hp2 (fun b5 => ?_) (fun b5 => ?_)
      · have hv := hv.1 b5
        refine lv_aload_n hx hb dX11_passes_29 rfl (lv_at hl 0 rfl) ?_
        refine gf_X11_26 hx hb hC hw 155 (gX_155 τ ad M3) rfl dX11_passes_30 ?_
        refine lv_iload_n hx hb dX11_passes_33 rfl (lv_at hl 1 rfl) ?_
        refine k_cVz (wq_X τ ad) hx hb hml hC hLS hA hw hl.1 (mX6_hasArrived l D τ ad sA sV _ 1 p1 (by decide) hp1 M3 hM _ hv) kX6_hasArrived ml_X11_255 rfl (gS_X (by decide) τ ad M3) rfl rfl (Nat.le_of_ble_eq_true rfl) (rm_ok (by decide) (by decide)) ⟨Nat.zero_le _, Nat.zero_le _⟩ dX11_passes_34 (fun x6 M6 H locs g6 z6 hM hv hw => ?_)
        have hv := hv g6 z6
        refine r_if_ne (tgt := 72) hx hb dX11_passes_37 (by decide) g6  (fun b7 => ?_) (fun b7 => ?_)
        · have hv := hv.1 b7
          refine r_bipush hx hb dX11_passes_72 (by decide +kernel) ?_
          exact k_iret (wq_X τ ad) hx hb hr hlk hw hM (by decide) hv dX11_passes_74
        · have hv := hv.2 b7
          refine lv_aload_n hx hb dX11_passes_40 rfl (lv_at hl 0 rfl) ?_
          refine gf_X11_26 hx hb hC hw 155 (gX_155 τ ad M6) rfl dX11_passes_41 ?_
          refine lv_iload_n hx hb dX11_passes_44 rfl (lv_at hl 2 rfl) ?_
          refine k_cVz (wq_X τ ad) hx hb hml hC hLS hA hw hl.1 (mX6_hasArrived l D τ ad sA sV _ 1 p2 (by decide) hp2 M6 hM _ hv) kX6_hasArrived ml_X11_255 rfl (gS_X (by decide) τ ad M6) rfl rfl (Nat.le_of_ble_eq_true rfl) (rm_ok (by decide) (by decide)) ⟨Nat.zero_le _, Nat.zero_le _⟩ dX11_passes_45 (fun x8 M8 H locs g8 z8 hM hv hw => ?_)
          have hv := hv g8 z8
          refine r_if_ne (tgt := 72) hx hb dX11_passes_48 (by decide) g8  (fun b9 => ?_) (fun b9 => ?_)
          · have hv := hv.1 b9
            refine r_bipush hx hb dX11_passes_72 (by decide +kernel) ?_
            exact k_iret (wq_X τ ad) hx hb hr hlk hw hM (by decide) hv dX11_passes_74
          · have hv := hv.2 b9
            refine lv_aload_n hx hb dX11_passes_51 rfl (lv_at hl 0 rfl) ?_
            refine gf_X11_26 hx hb hC hw 155 (gX_155 τ ad M8) rfl dX11_passes_52 ?_
            refine gf_X11_230 hx hb hC hw 1 (gS_X (by decide) τ ad M8) rfl dX11_passes_55 ?_
            refine lv_iload_n hx hb dX11_passes_58 rfl (lv_at hl 1 rfl) ?_
            obtain ⟨c10, hv⟩ := hv
            obtain ⟨c11, hv⟩ := hv
            refine r_iald hx hb hC hw 2 (gI_X (isS_f0 (by decide)) τ ad M8) c10 c11 (by decide) dX11_passes_59 ?_
            refine r_top (fun x12 e12 => ?_)
            have g12 : iR x12 := by rw [e12]; exact hM.get (isS_f0 (by decide)).pos _
            have hv := hv x12 e12 g12
            refine lv_aload_n hx hb dX11_passes_60 rfl (lv_at hl 0 rfl) ?_
            refine gf_X11_26 hx hb hC hw 155 (gX_155 τ ad M8) rfl dX11_passes_61 ?_
            refine gf_X11_230 hx hb hC hw 1 (gS_X (by decide) τ ad M8) rfl dX11_passes_64 ?_
            refine lv_iload_n hx hb dX11_passes_67 rfl (lv_at hl 2 rfl) ?_
            obtain ⟨c13, hv⟩ := hv
            obtain ⟨c14, hv⟩ := hv
            refine r_iald hx hb hC hw 2 (gI_X (isS_f0 (by decide)) τ ad M8) c13 c14 (by decide) dX11_passes_68 ?_
            refine r_top (fun x15 e15 => ?_)
            have g15 : iR x15 := by rw [e15]; exact hM.get (isS_f0 (by decide)).pos _
            have hv := hv x15 e15 g15
            refine r_icmp_le (tgt := 75) hx hb dX11_passes_69 (by decide) g12 g15 (fun b16 => ?_) (fun b16 => ?_)
            · have hv := hv.1 b16
              refine lv_aload_n hx hb dX11_passes_75 rfl (lv_at hl 0 rfl) ?_
              refine gf_X11_30 hx hb hC hw 155 (gX_155 τ ad M8) rfl dX11_passes_76 ?_
              refine lv_aload_n hx hb dX11_passes_79 rfl (lv_at hl 0 rfl) ?_
              refine gf_X11_26 hx hb hC hw 155 (gX_155 τ ad M8) rfl dX11_passes_80 ?_
              refine k_cVv (wq_X τ ad) hx hb hml hC hLS hA hw hl.1 (mX6_copyFrom l D τ ad sA sV _ 8 1 (by decide) (by decide) M8 hM _ hv) kX6_copyFrom ml_X11_153 rfl (gS_X (by decide) τ ad M8) rfl rfl (Nat.le_of_ble_eq_true rfl) (rm_ok (by decide) (by decide)) ⟨Nat.zero_le _, Nat.zero_le _⟩ dX11_passes_83 (fun M17 H locs hM hv hw => ?_)
              refine r_iconst hx hb dX11_passes_86 ?_
              refine lv_istore_n (lv' := [(3, .int (iI 1)), (0, .ref (ad 155)), (1, .int (iI p1)), (2, .int (iI p2))]) hx hb dX11_passes_87 rfl hl (by decide) rfl (fun ls hl => ?_)
              obtain ⟨n24, hv⟩ := hv
              refine L88 _ ?_ n24 1 M17 _ _ _ hM hv hw (lv_sub hl [1, 2, 3, 0] rfl)
              · intro v3 M H locs ls hM hv hw hl
                refine lv_aload_n hx hb dX11_passes_121 rfl (lv_at hl 0 rfl) ?_
                refine gf_X11_66 hx hb hC hw 155 (gX_155 τ ad M) rfl dX11_passes_122 ?_
                refine lv_aload_n hx hb dX11_passes_125 rfl (lv_at hl 0 rfl) ?_
                refine gf_X11_30 hx hb hC hw 155 (gX_155 τ ad M) rfl dX11_passes_126 ?_
                refine gf_X11_230 hx hb hC hw 8 (gS_X (by decide) τ ad M) rfl dX11_passes_129 ?_
                refine lv_iload_n hx hb dX11_passes_132 rfl (lv_at hl 1 rfl) ?_
                obtain ⟨c25, hv⟩ := hv
                obtain ⟨c26, hv⟩ := hv
                refine r_iald hx hb hC hw 9 (gI_X (isS_f0 (by decide)) τ ad M) c25 c26 (by decide) dX11_passes_133 ?_
                refine r_top (fun x27 e27 => ?_)
                have g27 : iR x27 := by rw [e27]; exact hM.get (isS_f0 (by decide)).pos _
                have hv := hv x27 e27 g27
                refine r_i2l hx hb dX11_passes_134 g27 ?_
                refine k_cVv (wq_X τ ad) hx hb hml hC hLS hA hw hl.1 (mX4_tellOne l D τ ad sA sV _ x27 (iR_lR g27) M hM _ hv) kX4_tellOne ml_X11_366 rfl (gX_167 τ ad M) rfl rfl (Nat.le_of_ble_eq_true rfl) (rm_ok (by decide) (by decide)) ⟨Nat.zero_le _, Nat.zero_le _⟩ dX11_passes_135 (fun M28 H locs hM hv hw => ?_)
                refine lv_iload_n hx hb dX11_passes_138 rfl (lv_at hl 2 rfl) ?_
                obtain ⟨c29, hv⟩ := hv
                exact k_iret (wq_X τ ad) hx hb hr hlk hw hM c29 hv dX11_passes_139
            · have hv := hv.2 b16
              refine r_bipush hx hb dX11_passes_72 (by decide +kernel) ?_
              exact k_iret (wq_X τ ad) hx hb hr hlk hw hM (by decide) hv dX11_passes_74
      · have hv := hv.2 b5
        refine r_iconst hx hb dX11_passes_27 ?_
        exact k_iret (wq_X τ ad) hx hb hr hlk hw hM (by decide) hv dX11_passes_28
set_option maxHeartbeats 4000000 in
set_option maxRecDepth 100000 in
theorem mX11_ends (l : Launch) (D : va_G) (τ : Nat → ClassId) (ad : Nat → Nat) (sA sV : Nat → Nat) (sz : Nat) (p1 : Int) (hp1 : iR p1) (M : Mem) (hM : MR M) (Q : Int → Mem → Prop) (hv : qX11_ends p1 M Q) : Met l yX11_ends (lw_w yX11_ends cX11_ends 3 (some .int)) (rmk 5 0 0) (kPc D τ sA sV (WX τ ad M) sz [.ref (ad 155), .int (iI p1)]) (gQi D (EQi (WX τ ad) MR Q) (va_A (WX τ ad M) sz)) 0 0 (va_A (WX τ ad M) sz) := by
  refine k_met (ret := (some .int)) (Qc := gQi D (EQi (WX τ ad) MR Q)) (by decide +kernel) (Nat.le_of_ble_eq_true rfl) ?_
  intro p e s m args below meth c A ls hx hb hml hr hlk hnm hC hLS hA hw hl
  have hC : cx D τ s m args RX11 := hC
  have hl : lv_has ls 3 [(0, .ref (ad 155)), (1, .int (iI p1))] := hl
  unfold qX11_ends at hv
  have L33 : ∀ (X72 : Int → Mem → Prop), (∀ (v2 : Int) (M : Mem) (H : Heap) (locs : List Loc) (ls : Array Slot), MR M → X72 v2 M → wS D A s.heap (WX τ ad M) H locs → lv_has ls 3 [(0, .ref (ad 155)), (1, .int (iI p1)), (2, .int (iI v2))] → W p l e (rmk 5 0 0) s m args below meth c H locs 0 0 (MQ below (gQi D (EQi (WX τ ad) MR Q) A) args s 0 0 A) (F0 m 72 ls [])) → ∀ (n : Nat) (v2 : Int) (M : Mem) (H : Heap) (locs : List Loc) (ls : Array Slot), MR M → qX11_ends_L33 p1 X72 Q n v2 M → wS D A s.heap (WX τ ad M) H locs → lv_has ls 3 [(0, .ref (ad 155)), (1, .int (iI p1)), (2, .int (iI v2))] → W p l e (rmk 5 0 0) s m args below meth c H locs 0 0 (MQ below (gQi D (EQi (WX τ ad) MR Q) A) args s 0 0 A) (F0 m 33 ls []) := by
    intro X72 hX72 n
    induction n with
    | zero => intro v2 M H locs ls hM hv; rw [qX11_ends_L33] at hv; exact hv.elim
    | succ n ih =>
      intro v2 M H locs ls hM hv hw hl
      rw [qX11_ends_L33] at hv
      refine lv_iload_n hx hb dX11_ends_33 rfl (lv_at hl 2 rfl) ?_
      refine r_sipush hx hb dX11_ends_34 (by decide +kernel) ?_
      obtain ⟨c5, hv⟩ := hv
      refine r_icmp_ge (tgt := 72) hx hb dX11_ends_37 (by decide) c5 (by decide) (fun b6 => ?_) (fun b6 => ?_)
      · have hv := hv.1 b6
        exact hX72 v2 M _ _ _ hM hv hw (lv_sub hl [0, 1, 2] rfl)
      · have hv := hv.2 b6
        refine lv_aload_n hx hb dX11_ends_40 rfl (lv_at hl 0 rfl) ?_
        refine gf_X11_30 hx hb hC hw 155 (gX_155 τ ad M) rfl dX11_ends_41 ?_
        refine lv_iload_n hx hb dX11_ends_44 rfl (lv_at hl 1 rfl) ?_
        refine k_cVz (wq_X τ ad) hx hb hml hC hLS hA hw hl.1 (mX6_hasEnded l D τ ad sA sV _ 8 p1 (by decide) hp1 M hM _ hv) kX6_hasEnded ml_X11_278 rfl (gS_X (by decide) τ ad M) rfl rfl (Nat.le_of_ble_eq_true rfl) (rm_ok (by decide) (by decide)) ⟨Nat.zero_le _, Nat.zero_le _⟩ dX11_ends_45 (fun x7 M7 H locs g7 z7 hM hv hw => ?_)
        have hv := hv g7 z7
        refine r_if_ne (tgt := 72) hx hb dX11_ends_48 (by decide) g7  (fun b8 => ?_) (fun b8 => ?_)
        · have hv := hv.1 b8
          exact hX72 v2 M7 _ _ _ hM hv hw (lv_sub hl [0, 1, 2] rfl)
        · have hv := hv.2 b8
          refine lv_aload_n hx hb dX11_ends_51 rfl (lv_at hl 0 rfl) ?_
          refine gf_X11_44 hx hb hC hw 155 (gX_155 τ ad M7) rfl dX11_ends_52 ?_
          refine lv_aload_n hx hb dX11_ends_55 rfl (lv_at hl 0 rfl) ?_
          refine gf_X11_30 hx hb hC hw 155 (gX_155 τ ad M7) rfl dX11_ends_56 ?_
          refine lv_aload_n hx hb dX11_ends_59 rfl (lv_at hl 0 rfl) ?_
          refine gf_X11_105 hx hb hC hw 155 (gX_155 τ ad M7) rfl dX11_ends_60 ?_
          obtain ⟨c9, hv⟩ := hv
          refine k_cVv (wq_X τ ad) hx hb hml hC hLS hA hw hl.1 (mX10_advance l D τ ad sA sV _ 8 (M7 155 16).toNat (by decide) c9 M7 hM _ hv) kX10_advance ml_X11_362 rfl (gX_160 τ ad M7) rfl rfl (Nat.le_of_ble_eq_true rfl) (rm_ok (by decide) (by decide)) ⟨Nat.zero_le _, Nat.zero_le _⟩ dX11_ends_63 (fun M10 H locs hM hv hw => ?_)
          refine r_iinc (v := (v2 + 1)) (lv' := [(2, .int (iI (v2 + 1))), (0, .ref (ad 155)), (1, .int (iI p1))]) hx hb dX11_ends_66 hl (k := 2) rfl rfl (by decide) rfl (fun ls hl => ?_)
          refine lv_goto (tgt := 33) hx hb dX11_ends_69 (by decide) ?_
          exact ih (v2 + 1) M10 _ _ _ hM hv hw (lv_sub hl [1, 2, 0] rfl)
  have J72 : ∀ (v2 : Int) (M : Mem) (H : Heap) (locs : List Loc) (ls : Array Slot), MR M → qX11_ends_J72 p1 Q v2 M → wS D A s.heap (WX τ ad M) H locs → lv_has ls 3 [(0, .ref (ad 155)), (1, .int (iI p1)), (2, .int (iI v2))] → W p l e (rmk 5 0 0) s m args below meth c H locs 0 0 (MQ below (gQi D (EQi (WX τ ad) MR Q) A) args s 0 0 A) (F0 m 72 ls []) := by
    intro v2 M H locs ls hM hv hw hl
    unfold qX11_ends_J72 at hv
    refine lv_aload_n hx hb dX11_ends_72 rfl (lv_at hl 0 rfl) ?_
    refine gf_X11_30 hx hb hC hw 155 (gX_155 τ ad M) rfl dX11_ends_73 ?_
    refine lv_iload_n hx hb dX11_ends_76 rfl (lv_at hl 1 rfl) ?_
    refine k_cVz (wq_X τ ad) hx hb hml hC hLS hA hw hl.1 (mX6_hasEnded l D τ ad sA sV _ 8 p1 (by decide) hp1 M hM _ hv) kX6_hasEnded ml_X11_278 rfl (gS_X (by decide) τ ad M) rfl rfl (Nat.le_of_ble_eq_true rfl) (rm_ok (by decide) (by decide)) ⟨Nat.zero_le _, Nat.zero_le _⟩ dX11_ends_77 (fun x12 M12 H locs g12 z12 hM hv hw => ?_)
    have hv := hv g12 z12
    refine r_if_ne (tgt := 86) hx hb dX11_ends_80 (by decide) g12  (fun b13 => ?_) (fun b13 => ?_)
    · have hv := hv.1 b13
      refine lv_aload_n hx hb dX11_ends_86 rfl (lv_at hl 0 rfl) ?_
      refine gf_X11_66 hx hb hC hw 155 (gX_155 τ ad M12) rfl dX11_ends_87 ?_
      refine lv_iload_n hx hb dX11_ends_90 rfl (lv_at hl 2 rfl) ?_
      obtain ⟨c14, hv⟩ := hv
      refine r_i2l hx hb dX11_ends_91 c14 ?_
      refine lv_aload_n hx hb dX11_ends_92 rfl (lv_at hl 0 rfl) ?_
      refine gf_X11_44 hx hb hC hw 155 (gX_155 τ ad M12) rfl dX11_ends_93 ?_
      refine gf_X11_379 hx hb hC hw 160 (gX_160 τ ad M12) rfl dX11_ends_96 ?_
      refine lv_iload_n hx hb dX11_ends_99 rfl (lv_at hl 1 rfl) ?_
      obtain ⟨c15, hv⟩ := hv
      obtain ⟨c16, hv⟩ := hv
      refine r_iald hx hb hC hw 162 (gI_X aX_162 τ ad M12) c15 c16 (by decide) dX11_ends_100 ?_
      refine r_top (fun x17 e17 => ?_)
      have g17 : iR x17 := by rw [e17]; exact hM.get aX_162.pos _
      have hv := hv x17 e17 g17
      refine r_i2l hx hb dX11_ends_101 g17 ?_
      refine k_cVv (wq_X τ ad) hx hb hml hC hLS hA hw hl.1 (mX4_tellTwo l D τ ad sA sV _ v2 x17 (iR_lR c14) (iR_lR g17) M12 hM _ hv) kX4_tellTwo ml_X11_298 rfl (gX_167 τ ad M12) rfl rfl (Nat.le_of_ble_eq_true rfl) (rm_ok (by decide) (by decide)) ⟨Nat.zero_le _, Nat.zero_le _⟩ dX11_ends_102 (fun M18 H locs hM hv hw => ?_)
      refine lv_aload_n hx hb dX11_ends_105 rfl (lv_at hl 0 rfl) ?_
      refine gf_X11_30 hx hb hC hw 155 (gX_155 τ ad M18) rfl dX11_ends_106 ?_
      refine gf_X11_247 hx hb hC hw 8 (gS_X (by decide) τ ad M18) rfl dX11_ends_109 ?_
      refine lv_iload_n hx hb dX11_ends_112 rfl (lv_at hl 1 rfl) ?_
      refine r_iald hx hb hC hw 14 (gI_X (isS_f5 (by decide)) τ ad M18) c15 c16 (by decide) dX11_ends_113 ?_
      refine r_top (fun x19 e19 => ?_)
      have g19 : iR x19 := by rw [e19]; exact hM.get (isS_f5 (by decide)).pos _
      have hv := hv x19 e19 g19
      exact k_iret (wq_X τ ad) hx hb hr hlk hw hM g19 hv dX11_ends_114
    · have hv := hv.2 b13
      refine r_bipush hx hb dX11_ends_83 (by decide +kernel) ?_
      exact k_iret (wq_X τ ad) hx hb hr hlk hw hM (by decide) hv dX11_ends_85
  refine lv_aload_n hx hb dX11_ends_0 rfl (lv_at hl 0 rfl) ?_
  refine gf_X11_26 hx hb hC hw 155 (gX_155 τ ad M) rfl dX11_ends_1 ?_
  refine lv_iload_n hx hb dX11_ends_4 rfl (lv_at hl 1 rfl) ?_
  refine k_cVz (wq_X τ ad) hx hb hml hC hLS hA hw hl.1 (mX6_isMourner l D τ ad sA sV _ 1 p1 (by decide) hp1 M hM _ hv) kX6_isMourner ml_X11_265 rfl (gS_X (by decide) τ ad M) rfl rfl (Nat.le_of_ble_eq_true rfl) (rm_ok (by decide) (by decide)) ⟨Nat.zero_le _, Nat.zero_le _⟩ dX11_ends_5 (fun x1 M1 H locs g1 z1 hM hv hw => ?_)
  have hv := hv g1 z1
  refine r_if_ne (tgt := 13) hx hb dX11_ends_8 (by decide) g1  (fun b2 => ?_) (fun b2 => ?_)
  · have hv := hv.1 b2
    refine lv_aload_n hx hb dX11_ends_13 rfl (lv_at hl 0 rfl) ?_
    refine gf_X11_30 hx hb hC hw 155 (gX_155 τ ad M1) rfl dX11_ends_14 ?_
    refine lv_aload_n hx hb dX11_ends_17 rfl (lv_at hl 0 rfl) ?_
    refine gf_X11_26 hx hb hC hw 155 (gX_155 τ ad M1) rfl dX11_ends_18 ?_
    refine k_cVv (wq_X τ ad) hx hb hml hC hLS hA hw hl.1 (mX6_copyFrom l D τ ad sA sV _ 8 1 (by decide) (by decide) M1 hM _ hv) kX6_copyFrom ml_X11_153 rfl (gS_X (by decide) τ ad M1) rfl rfl (Nat.le_of_ble_eq_true rfl) (rm_ok (by decide) (by decide)) ⟨Nat.zero_le _, Nat.zero_le _⟩ dX11_ends_21 (fun M3 H locs hM hv hw => ?_)
    refine lv_aload_n hx hb dX11_ends_24 rfl (lv_at hl 0 rfl) ?_
    refine gf_X11_44 hx hb hC hw 155 (gX_155 τ ad M3) rfl dX11_ends_25 ?_
    refine k_cVv (wq_X τ ad) hx hb hml hC hLS hA hw hl.1 (mX10_forgetTallies l D τ ad sA sV _   M3 hM _ hv) kX10_forgetTallies ml_X11_376 rfl (gX_160 τ ad M3) rfl rfl (Nat.le_of_ble_eq_true rfl) (rm_ok (by decide) (by decide)) ⟨Nat.zero_le _, Nat.zero_le _⟩ dX11_ends_28 (fun M4 H locs hM hv hw => ?_)
    refine r_iconst hx hb dX11_ends_31 ?_
    refine lv_istore_n (lv' := [(2, .int (iI 0)), (0, .ref (ad 155)), (1, .int (iI p1))]) hx hb dX11_ends_32 rfl hl (by decide) rfl (fun ls hl => ?_)
    obtain ⟨n11, hv⟩ := hv
    refine L33 _ ?_ n11 0 M4 _ _ _ hM hv hw (lv_sub hl [1, 2, 0] rfl)
    · intro v2 M H locs ls hM hv hw hl
      exact J72 v2 M _ _ _ hM hv hw (lv_sub hl [0, 1, 2] rfl)
  · have hv := hv.2 b2
    refine r_iconst hx hb dX11_ends_11 ?_
    exact k_iret (wq_X τ ad) hx hb hr hlk hw hM (by decide) hv dX11_ends_12
set_option maxHeartbeats 4000000 in
set_option maxRecDepth 100000 in
theorem mX2_period (l : Launch) (D : va_G) (τ : Nat → ClassId) (ad : Nat → Nat) (sA sV : Nat → Nat) (sz : Nat) (k0 : Nat) (hk0 : isL k0) (M : Mem) (hM : MR M) (Q : Int → Mem → Prop) (hv : qX2_period k0 M Q) : Met l yX2_period (lw_w yX2_period cX2_period 2 (some .int)) (rmk 2 0 0) (kPc D τ sA sV (WX τ ad M) sz [.ref (ad k0), .ref (ad 158)]) (gQi D (EQi (WX τ ad) MR Q) (va_A (WX τ ad M) sz)) 0 0 (va_A (WX τ ad M) sz) := by
  refine k_met (ret := (some .int)) (Qc := gQi D (EQi (WX τ ad) MR Q)) (by decide +kernel) (Nat.le_of_ble_eq_true rfl) ?_
  intro p e s m args below meth c A ls hx hb hml hr hlk hnm hC hLS hA hw hl
  have hC : cx D τ s m args RX2 := hC
  have hl : lv_has ls 2 [(0, .ref (ad k0)), (1, .ref (ad 158))] := hl
  unfold qX2_period at hv
  have J14 : ∀ (t0 : Int) (M : Mem) (H : Heap) (locs : List Loc) (ls : Array Slot), MR M → qX2_period_J14 k0 Q t0 M → wS D A s.heap (WX τ ad M) H locs → lv_has ls 2 [(0, .ref (ad k0)), (1, .ref (ad 158))] → W p l e (rmk 2 0 0) s m args below meth c H locs 0 0 (MQ below (gQi D (EQi (WX τ ad) MR Q) A) args s 0 0 A) (F0 m 14 ls [.int (iI t0)]) := by
    intro t0 M H locs ls hM hv hw hl
    unfold qX2_period_J14 at hv
    refine lv_aload_n hx hb dX2_period_14 rfl (lv_at hl 0 rfl) ?_
    refine r_iconst hx hb dX2_period_15 ?_
    refine k_cVz (wq_X τ ad) hx hb hml hC hLS hA hw hl.1 (mX2_uses l D τ ad sA sV _ k0 3 hk0 (by decide) M hM _ hv) kX2_uses ml_X2_42 rfl (gL_X hk0 τ ad M) rfl rfl (Nat.le_of_ble_eq_true rfl) (rm_ok (by decide) (by decide)) ⟨Nat.zero_le _, Nat.zero_le _⟩ dX2_period_16 (fun x3 M3 H locs g3 z3 hM hv hw => ?_)
    have hv := hv g3 z3
    refine r_if_eq (tgt := 29) hx hb dX2_period_19 (by decide) g3  (fun b4 => ?_) (fun b4 => ?_)
    · have hv := hv.1 b4
      refine r_iconst hx hb dX2_period_29 ?_
      refine r_imul (z := (t0 * 1)) hx hb dX2_period_30 rfl ?_
      obtain ⟨c5, hv⟩ := hv
      exact k_iret (wq_X τ ad) hx hb hr hlk hw hM c5 hv dX2_period_31
    · have hv := hv.2 b4
      refine lv_aload_n hx hb dX2_period_22 rfl (lv_at hl 1 rfl) ?_
      refine gf_X2_46 hx hb hC hw 158 (gX_158 τ ad M3) rfl dX2_period_23 ?_
      refine r_top (fun x6 e6 => ?_)
      have g6 : iR x6 := by rw [e6]; exact hM.get (by decide) _
      have hv := hv x6 e6 g6
      refine lv_goto (tgt := 30) hx hb dX2_period_26 (by decide) ?_
      refine r_imul (z := (t0 * x6)) hx hb dX2_period_30 rfl ?_
      obtain ⟨c7, hv⟩ := hv
      exact k_iret (wq_X τ ad) hx hb hr hlk hw hM c7 hv dX2_period_31
  refine lv_aload_n hx hb dX2_period_0 rfl (lv_at hl 0 rfl) ?_
  refine r_iconst hx hb dX2_period_1 ?_
  refine k_cVz (wq_X τ ad) hx hb hml hC hLS hA hw hl.1 (mX2_uses l D τ ad sA sV _ k0 4 hk0 (by decide) M hM _ hv) kX2_uses ml_X2_42 rfl (gL_X hk0 τ ad M) rfl rfl (Nat.le_of_ble_eq_true rfl) (rm_ok (by decide) (by decide)) ⟨Nat.zero_le _, Nat.zero_le _⟩ dX2_period_2 (fun x1 M1 H locs g1 z1 hM hv hw => ?_)
  have hv := hv g1 z1
  refine r_if_eq (tgt := 13) hx hb dX2_period_5 (by decide) g1  (fun b2 => ?_) (fun b2 => ?_)
  · have hv := hv.1 b2
    refine r_iconst hx hb dX2_period_13 ?_
    exact J14 1 M1 _ _ _ hM hv hw (lv_sub hl [0, 1] rfl)
  · have hv := hv.2 b2
    refine r_bipush hx hb dX2_period_8 (by decide +kernel) ?_
    refine lv_goto (tgt := 14) hx hb dX2_period_10 (by decide) ?_
    exact J14 10 M1 _ _ _ hM hv hw (lv_sub hl [0, 1] rfl)
set_option maxHeartbeats 4000000 in
set_option maxRecDepth 100000 in
theorem mX10_toEnd (l : Launch) (D : va_G) (τ : Nat → ClassId) (ad : Nat → Nat) (sA sV : Nat → Nat) (sz : Nat) (k1 : Nat) (k2 : Nat) (hk1 : isS k1) (hk2 : isL k2) (M : Mem) (hM : MR M) (Q : Mem → Prop) (hv : qX10_toEnd k1 k2 M Q) : Met l yX10_toEnd (lw_w yX10_toEnd cX10_toEnd 6 none) (rmk 5 0 0) (kPc D τ sA sV (WX τ ad M) sz [.ref (ad 160), .ref (ad k1), .ref (ad k2)]) (gQv D (EQv (WX τ ad) MR Q) (va_A (WX τ ad M) sz)) 0 0 (va_A (WX τ ad M) sz) := by
  refine k_met (ret := none) (Qc := gQv D (EQv (WX τ ad) MR Q)) (by decide +kernel) (Nat.le_of_ble_eq_true rfl) ?_
  intro p e s m args below meth c A ls hx hb hml hr hlk hnm hC hLS hA hw hl
  have hC : cx D τ s m args RX10 := hC
  have hl : lv_has ls 6 [(0, .ref (ad 160)), (1, .ref (ad k1)), (2, .ref (ad k2))] := hl
  unfold qX10_toEnd at hv
  have L15 : ∀ (n : Nat) (v3 : Int) (v4 : Int) (v5 : Int) (M : Mem) (H : Heap) (locs : List Loc) (ls : Array Slot), MR M → qX10_toEnd_L15 k1 k2  Q n v3 v4 v5 M → wS D A s.heap (WX τ ad M) H locs → lv_has ls 6 [(0, .ref (ad 160)), (1, .ref (ad k1)), (2, .ref (ad k2)), (3, .int (iI v3)), (4, .int (iI v4)), (5, .int (iI v5))] → W p l e (rmk 5 0 0) s m args below meth c H locs 0 0 (MQ below (gQv D (EQv (WX τ ad) MR Q) A) args s 0 0 A) (F0 m 15 ls []) := by
    intro n
    induction n with
    | zero => intro v3 v4 v5 M H locs ls hM hv; rw [qX10_toEnd_L15] at hv; exact hv.elim
    | succ n ih =>
      intro v3 v4 v5 M H locs ls hM hv hw hl
      rw [qX10_toEnd_L15] at hv
      refine lv_iload hx hb dX10_toEnd_15 (lv_at hl 5 rfl) ?_
      refine r_sipush hx hb dX10_toEnd_17 (by decide +kernel) ?_
      obtain ⟨c2, hv⟩ := hv
      refine r_icmp_ge (tgt := 83) hx hb dX10_toEnd_20 (by decide) c2 (by decide) (fun b3 => ?_) (fun b3 => ?_)
      · have hv := hv.1 b3
        exact k_vret (wq_X τ ad) hx hb hr hlk hw hM hv dX10_toEnd_83
      · have hv := hv.2 b3
        refine lv_iload hx hb dX10_toEnd_23 (lv_at hl 4 rfl) ?_
        refine lv_iload_n hx hb dX10_toEnd_25 rfl (lv_at hl 3 rfl) ?_
        obtain ⟨c4, hv⟩ := hv
        obtain ⟨c5, hv⟩ := hv
        refine r_icmp_ge (tgt := 83) hx hb dX10_toEnd_26 (by decide) c4 c5 (fun b6 => ?_) (fun b6 => ?_)
        · have hv := hv.1 b6
          exact k_vret (wq_X τ ad) hx hb hr hlk hw hM hv dX10_toEnd_83
        · have hv := hv.2 b6
          refine lv_aload_n hx hb dX10_toEnd_29 rfl (lv_at hl 1 rfl) ?_
          refine gf_X10_46 hx hb hC hw k1 (gS_X hk1 τ ad M) rfl dX10_toEnd_30 ?_
          refine r_top (fun x7 e7 => ?_)
          have g7 : iR x7 := by rw [e7]; exact hM.get hk1.pos _
          have hv := hv x7 e7 g7
          refine lv_aload_n hx hb dX10_toEnd_33 rfl (lv_at hl 1 rfl) ?_
          refine gf_X10_51 hx hb hC hw k1 (gS_X hk1 τ ad M) rfl dX10_toEnd_34 ?_
          refine r_top (fun x8 e8 => ?_)
          have g8 : iR x8 := by rw [e8]; exact hM.get hk1.pos _
          have hv := hv x8 e8 g8
          refine r_icmp_eq (tgt := 83) hx hb dX10_toEnd_37 (by decide) g7 g8 (fun b9 => ?_) (fun b9 => ?_)
          · have hv := hv.1 b9
            exact k_vret (wq_X τ ad) hx hb hr hlk hw hM hv dX10_toEnd_83
          · have hv := hv.2 b9
            refine lv_aload_n hx hb dX10_toEnd_40 rfl (lv_at hl 1 rfl) ?_
            refine gf_X10_54 hx hb hC hw k1 (gS_X hk1 τ ad M) rfl dX10_toEnd_41 ?_
            refine r_top (fun x10 e10 => ?_)
            have g10 : iR x10 := by rw [e10]; exact hM.get hk1.pos _
            have hv := hv x10 e10 g10
            refine lv_aload_n hx hb dX10_toEnd_44 rfl (lv_at hl 1 rfl) ?_
            refine gf_X10_57 hx hb hC hw k1 (gS_X hk1 τ ad M) rfl dX10_toEnd_45 ?_
            refine r_top (fun x11 e11 => ?_)
            have g11 : iR x11 := by rw [e11]; exact hM.get hk1.pos _
            have hv := hv x11 e11 g11
            refine r_icmp_ne (tgt := 54) hx hb dX10_toEnd_48 (by decide) g10 g11 (fun b12 => ?_) (fun b12 => ?_)
            · have hv := hv.1 b12
              refine lv_aload_n hx hb dX10_toEnd_54 rfl (lv_at hl 0 rfl) ?_
              refine lv_aload_n hx hb dX10_toEnd_55 rfl (lv_at hl 1 rfl) ?_
              refine lv_aload_n hx hb dX10_toEnd_56 rfl (lv_at hl 2 rfl) ?_
              refine k_cVv (wq_X τ ad) hx hb hml hC hLS hA hw hl.1 (mX10_advance l D τ ad sA sV _ k1 k2 hk1 hk2 M hM _ hv) kX10_advance ml_X10_36 rfl (gX_160 τ ad M) rfl rfl (Nat.le_of_ble_eq_true rfl) (rm_ok (by decide) (by decide)) ⟨Nat.zero_le _, Nat.zero_le _⟩ dX10_toEnd_57 (fun M13 H locs hM hv hw => ?_)
              refine lv_aload_n hx hb dX10_toEnd_60 rfl (lv_at hl 0 rfl) ?_
              refine gf_X10_25 hx hb hC hw 160 (gX_160 τ ad M13) rfl dX10_toEnd_61 ?_
              refine r_top (fun x14 e14 => ?_)
              have g14 : iR x14 := by rw [e14]; exact hM.get (by decide) _
              have hv := hv x14 e14 g14
              refine r_if_eq (tgt := 71) hx hb dX10_toEnd_64 (by decide) g14  (fun b15 => ?_) (fun b15 => ?_)
              · have hv := hv.1 b15
                refine lv_iload hx hb dX10_toEnd_71 (lv_at hl 4 rfl) ?_
                refine r_iconst hx hb dX10_toEnd_73 ?_
                refine r_iadd (z := (v4 + 1)) hx hb dX10_toEnd_74 rfl ?_
                refine lv_istore (lv' := [(4, .int (iI (v4 + 1))), (0, .ref (ad 160)), (1, .ref (ad k1)), (2, .ref (ad k2)), (3, .int (iI v3)), (5, .int (iI v5))]) hx hb dX10_toEnd_75 hl (by decide) rfl (fun ls hl => ?_)
                refine r_iinc (v := (v5 + 1)) (lv' := [(5, .int (iI (v5 + 1))), (4, .int (iI (v4 + 1))), (0, .ref (ad 160)), (1, .ref (ad k1)), (2, .ref (ad k2)), (3, .int (iI v3))]) hx hb dX10_toEnd_77 hl (k := 5) rfl rfl (by decide) rfl (fun ls hl => ?_)
                refine lv_goto (tgt := 15) hx hb dX10_toEnd_80 (by decide) ?_
                exact ih v3 (v4 + 1) (v5 + 1) M13 _ _ _ hM hv hw (lv_sub hl [2, 3, 4, 5, 1, 0] rfl)
              · have hv := hv.2 b15
                refine r_iconst hx hb dX10_toEnd_67 ?_
                refine lv_goto (tgt := 75) hx hb dX10_toEnd_68 (by decide) ?_
                refine lv_istore (lv' := [(4, .int (iI 0)), (0, .ref (ad 160)), (1, .ref (ad k1)), (2, .ref (ad k2)), (3, .int (iI v3)), (5, .int (iI v5))]) hx hb dX10_toEnd_75 hl (by decide) rfl (fun ls hl => ?_)
                refine r_iinc (v := (v5 + 1)) (lv' := [(5, .int (iI (v5 + 1))), (4, .int (iI 0)), (0, .ref (ad 160)), (1, .ref (ad k1)), (2, .ref (ad k2)), (3, .int (iI v3))]) hx hb dX10_toEnd_77 hl (k := 5) rfl rfl (by decide) rfl (fun ls hl => ?_)
                refine lv_goto (tgt := 15) hx hb dX10_toEnd_80 (by decide) ?_
                exact ih v3 0 (v5 + 1) M13 _ _ _ hM hv hw (lv_sub hl [2, 3, 4, 5, 1, 0] rfl)
            · have hv := hv.2 b12
              refine lv_goto (tgt := 83) hx hb dX10_toEnd_51 (by decide) ?_
              exact k_vret (wq_X τ ad) hx hb hr hlk hw hM hv dX10_toEnd_83
  refine lv_aload_n hx hb dX10_toEnd_0 rfl (lv_at hl 2 rfl) ?_
  refine lv_aload_n hx hb dX10_toEnd_1 rfl (lv_at hl 0 rfl) ?_
  refine gf_X10_29 hx hb hC hw 160 (gX_160 τ ad M) rfl dX10_toEnd_2 ?_
  refine k_cVi (wq_X τ ad) hx hb hml hC hLS hA hw hl.1 (mX2_period l D τ ad sA sV _ k2 hk2 M hM _ hv) kX2_period ml_X10_40 rfl (gL_X hk2 τ ad M) rfl rfl (Nat.le_of_ble_eq_true rfl) (rm_ok (by decide) (by decide)) ⟨Nat.zero_le _, Nat.zero_le _⟩ dX10_toEnd_5 (fun x1 M1 H locs g1 hM hv hw => ?_)
  have hv := hv g1
  refine lv_istore_n (lv' := [(3, .int (iI x1)), (0, .ref (ad 160)), (1, .ref (ad k1)), (2, .ref (ad k2))]) hx hb dX10_toEnd_8 rfl hl (by decide) rfl (fun ls hl => ?_)
  refine r_iconst hx hb dX10_toEnd_9 ?_
  refine lv_istore (lv' := [(4, .int (iI 0)), (3, .int (iI x1)), (0, .ref (ad 160)), (1, .ref (ad k1)), (2, .ref (ad k2))]) hx hb dX10_toEnd_10 hl (by decide) rfl (fun ls hl => ?_)
  refine r_iconst hx hb dX10_toEnd_12 ?_
  refine lv_istore (lv' := [(5, .int (iI 0)), (4, .int (iI 0)), (3, .int (iI x1)), (0, .ref (ad 160)), (1, .ref (ad k1)), (2, .ref (ad k2))]) hx hb dX10_toEnd_13 hl (by decide) rfl (fun ls hl => ?_)
  obtain ⟨n16, hv⟩ := hv
  refine L15  n16 x1 0 0 M1 _ _ _ hM hv hw (lv_sub hl [3, 4, 5, 2, 1, 0] rfl)
set_option maxHeartbeats 4000000 in
set_option maxRecDepth 100000 in
theorem mX6_isRight (l : Launch) (D : va_G) (τ : Nat → ClassId) (ad : Nat → Nat) (sA sV : Nat → Nat) (sz : Nat) (k0 : Nat) (p1 : Int) (hk0 : isS k0) (hp1 : iR p1) (M : Mem) (hM : MR M) (Q : Int → Mem → Prop) (hv : qX6_isRight k0 p1 M Q) : Met l yX6_isRight (lw_w yX6_isRight cX6_isRight 2 (some .boolean)) (rmk 1 0 0) (kPc D τ sA sV (WX τ ad M) sz [.ref (ad k0), .int (iI p1)]) (gQi D (EQz (WX τ ad) MR Q) (va_A (WX τ ad M) sz)) 0 0 (va_A (WX τ ad M) sz) := by
  refine k_met (ret := (some .boolean)) (Qc := gQi D (EQz (WX τ ad) MR Q)) (by decide +kernel) (Nat.le_of_ble_eq_true rfl) ?_
  intro p e s m args below meth c A ls hx hb hml hr hlk hnm hC hLS hA hw hl
  have hC : cx D τ s m args RX6 := hC
  have hl : lv_has ls 2 [(0, .ref (ad k0)), (1, .int (iI p1))] := hl
  unfold qX6_isRight at hv
  refine lv_aload_n hx hb dX6_isRight_0 rfl (lv_at hl 0 rfl) ?_
  refine gf_X6_27 hx hb hC hw k0 (gS_X hk0 τ ad M) rfl dX6_isRight_1 ?_
  refine lv_iload_n hx hb dX6_isRight_4 rfl (lv_at hl 1 rfl) ?_
  obtain ⟨c1, hv⟩ := hv
  obtain ⟨c2, hv⟩ := hv
  refine r_iald hx hb hC hw (k0 + 6) (gI_X (isS_f5 hk0) τ ad M) c1 c2 (by decide) dX6_isRight_5 ?_
  refine r_top (fun x3 e3 => ?_)
  have g3 : iR x3 := by rw [e3]; exact hM.get (isS_f5 hk0).pos _
  have hv := hv x3 e3 g3
  refine lv_aload_n hx hb dX6_isRight_6 rfl (lv_at hl 0 rfl) ?_
  refine gf_X6_21 hx hb hC hw k0 (gS_X hk0 τ ad M) rfl dX6_isRight_7 ?_
  refine lv_iload_n hx hb dX6_isRight_10 rfl (lv_at hl 1 rfl) ?_
  refine r_iald hx hb hC hw (k0 + 4) (gI_X (isS_f3 hk0) τ ad M) c1 c2 (by decide) dX6_isRight_11 ?_
  refine r_top (fun x4 e4 => ?_)
  have g4 : iR x4 := by rw [e4]; exact hM.get (isS_f3 hk0).pos _
  have hv := hv x4 e4 g4
  refine r_icmp_ne (tgt := 19) hx hb dX6_isRight_12 (by decide) g3 g4 (fun b5 => ?_) (fun b5 => ?_)
  · have hv := hv.1 b5
    refine r_iconst hx hb dX6_isRight_19 ?_
    exact k_zret (wq_X τ ad) hx hb hr hlk hw hM (by decide) (by decide) hv dX6_isRight_20
  · have hv := hv.2 b5
    refine r_iconst hx hb dX6_isRight_15 ?_
    refine lv_goto (tgt := 20) hx hb dX6_isRight_16 (by decide) ?_
    exact k_zret (wq_X τ ad) hx hb hr hlk hw hM (by decide) (by decide) hv dX6_isRight_20
set_option maxHeartbeats 4000000 in
set_option maxRecDepth 100000 in
theorem mX6_rightBits (l : Launch) (D : va_G) (τ : Nat → ClassId) (ad : Nat → Nat) (sA sV : Nat → Nat) (sz : Nat) (k0 : Nat) (hk0 : isS k0) (M : Mem) (hM : MR M) (Q : Int → Mem → Prop) (hv : qX6_rightBits k0 M Q) : Met l yX6_rightBits (lw_w yX6_rightBits cX6_rightBits 3 (some .int)) (rmk 2 0 0) (kPc D τ sA sV (WX τ ad M) sz [.ref (ad k0)]) (gQi D (EQi (WX τ ad) MR Q) (va_A (WX τ ad M) sz)) 0 0 (va_A (WX τ ad M) sz) := by
  refine k_met (ret := (some .int)) (Qc := gQi D (EQi (WX τ ad) MR Q)) (by decide +kernel) (Nat.le_of_ble_eq_true rfl) ?_
  intro p e s m args below meth c A ls hx hb hml hr hlk hnm hC hLS hA hw hl
  have hC : cx D τ s m args RX6 := hC
  have hl : lv_has ls 3 [(0, .ref (ad k0))] := hl
  unfold qX6_rightBits at hv
  have L4 : ∀ (n : Nat) (v1 : Int) (v2 : Int) (M : Mem) (H : Heap) (locs : List Loc) (ls : Array Slot), MR M → qX6_rightBits_L4 k0  Q n v1 v2 M → wS D A s.heap (WX τ ad M) H locs → lv_has ls 3 [(0, .ref (ad k0)), (1, .int (iI v1)), (2, .int (iI v2))] → W p l e (rmk 2 0 0) s m args below meth c H locs 0 0 (MQ below (gQi D (EQi (WX τ ad) MR Q) A) args s 0 0 A) (F0 m 4 ls []) := by
    intro n
    induction n with
    | zero => intro v1 v2 M H locs ls hM hv; rw [qX6_rightBits_L4] at hv; exact hv.elim
    | succ n ih =>
      intro v1 v2 M H locs ls hM hv hw hl
      rw [qX6_rightBits_L4] at hv
      refine lv_iload_n hx hb dX6_rightBits_4 rfl (lv_at hl 2 rfl) ?_
      refine lv_aload_n hx hb dX6_rightBits_5 rfl (lv_at hl 0 rfl) ?_
      refine gf_X6_34 hx hb hC hw k0 (gS_X hk0 τ ad M) rfl dX6_rightBits_6 ?_
      refine r_top (fun x1 e1 => ?_)
      have g1 : iR x1 := by rw [e1]; exact hM.get hk0.pos _
      have hv := hv x1 e1 g1
      obtain ⟨c2, hv⟩ := hv
      refine r_icmp_ge (tgt := 36) hx hb dX6_rightBits_9 (by decide) c2 g1 (fun b3 => ?_) (fun b3 => ?_)
      · have hv := hv.1 b3
        refine lv_iload_n hx hb dX6_rightBits_36 rfl (lv_at hl 1 rfl) ?_
        obtain ⟨c4, hv⟩ := hv
        exact k_iret (wq_X τ ad) hx hb hr hlk hw hM c4 hv dX6_rightBits_37
      · have hv := hv.2 b3
        refine lv_iload_n hx hb dX6_rightBits_12 rfl (lv_at hl 1 rfl) ?_
        refine lv_aload_n hx hb dX6_rightBits_13 rfl (lv_at hl 0 rfl) ?_
        refine lv_iload_n hx hb dX6_rightBits_14 rfl (lv_at hl 2 rfl) ?_
        refine k_cVz (wq_X τ ad) hx hb hml hC hLS hA hw hl.1 (mX6_isRight l D τ ad sA sV _ k0 v2 hk0 c2 M hM _ hv) kX6_isRight ml_X6_86 rfl (gS_X hk0 τ ad M) rfl rfl (Nat.le_of_ble_eq_true rfl) (rm_ok (by decide) (by decide)) ⟨Nat.zero_le _, Nat.zero_le _⟩ dX6_rightBits_15 (fun x5 M5 H locs g5 z5 hM hv hw => ?_)
        have hv := hv g5 z5
        refine r_if_eq (tgt := 27) hx hb dX6_rightBits_18 (by decide) g5  (fun b6 => ?_) (fun b6 => ?_)
        · have hv := hv.1 b6
          refine r_iconst hx hb dX6_rightBits_27 ?_
          refine r_iorF hx hb dX6_rightBits_28 (fun x7 e7 g7 => ?_)
          have hv := hv x7 e7 g7
          refine lv_istore_n (lv' := [(1, .int (iI x7)), (0, .ref (ad k0)), (2, .int (iI v2))]) hx hb dX6_rightBits_29 rfl hl (by decide) rfl (fun ls hl => ?_)
          refine r_iinc (v := (v2 + 1)) (lv' := [(2, .int (iI (v2 + 1))), (1, .int (iI x7)), (0, .ref (ad k0))]) hx hb dX6_rightBits_30 hl (k := 2) rfl rfl (by decide) rfl (fun ls hl => ?_)
          refine lv_goto (tgt := 4) hx hb dX6_rightBits_33 (by decide) ?_
          exact ih x7 (v2 + 1) M5 _ _ _ hM hv hw (lv_sub hl [2, 1, 0] rfl)
        · have hv := hv.2 b6
          refine r_iconst hx hb dX6_rightBits_21 ?_
          refine lv_iload_n hx hb dX6_rightBits_22 rfl (lv_at hl 2 rfl) ?_
          refine r_ishlF hx hb dX6_rightBits_23 (fun x8 e8 g8 => ?_)
          have hv := hv x8 e8 g8
          refine lv_goto (tgt := 28) hx hb dX6_rightBits_24 (by decide) ?_
          refine r_iorF hx hb dX6_rightBits_28 (fun x9 e9 g9 => ?_)
          have hv := hv x9 e9 g9
          refine lv_istore_n (lv' := [(1, .int (iI x9)), (0, .ref (ad k0)), (2, .int (iI v2))]) hx hb dX6_rightBits_29 rfl hl (by decide) rfl (fun ls hl => ?_)
          refine r_iinc (v := (v2 + 1)) (lv' := [(2, .int (iI (v2 + 1))), (1, .int (iI x9)), (0, .ref (ad k0))]) hx hb dX6_rightBits_30 hl (k := 2) rfl rfl (by decide) rfl (fun ls hl => ?_)
          refine lv_goto (tgt := 4) hx hb dX6_rightBits_33 (by decide) ?_
          exact ih x9 (v2 + 1) M5 _ _ _ hM hv hw (lv_sub hl [2, 1, 0] rfl)
  refine r_iconst hx hb dX6_rightBits_0 ?_
  refine lv_istore_n (lv' := [(1, .int (iI 0)), (0, .ref (ad k0))]) hx hb dX6_rightBits_1 rfl hl (by decide) rfl (fun ls hl => ?_)
  refine r_iconst hx hb dX6_rightBits_2 ?_
  refine lv_istore_n (lv' := [(2, .int (iI 0)), (1, .int (iI 0)), (0, .ref (ad k0))]) hx hb dX6_rightBits_3 rfl hl (by decide) rfl (fun ls hl => ?_)
  obtain ⟨n10, hv⟩ := hv
  refine L4  n10 0 0 M _ _ _ hM hv hw (lv_sub hl [2, 1, 0] rfl)
set_option maxHeartbeats 4000000 in
set_option maxRecDepth 100000 in
theorem mX11_rightOnesOfTrial (l : Launch) (D : va_G) (τ : Nat → ClassId) (ad : Nat → Nat) (sA sV : Nat → Nat) (sz : Nat) (k1 : Nat) (hk1 : isL k1) (M : Mem) (hM : MR M) (Q : Int → Mem → Prop) (hv : qX11_rightOnesOfTrial k1 M Q) : Met l yX11_rightOnesOfTrial (lw_w yX11_rightOnesOfTrial cX11_rightOnesOfTrial 2 (some .int)) (rmk 6 0 0) (kPc D τ sA sV (WX τ ad M) sz [.ref (ad 155), .ref (ad k1)]) (gQi D (EQi (WX τ ad) MR Q) (va_A (WX τ ad M) sz)) 0 0 (va_A (WX τ ad M) sz) := by
  refine k_met (ret := (some .int)) (Qc := gQi D (EQi (WX τ ad) MR Q)) (by decide +kernel) (Nat.le_of_ble_eq_true rfl) ?_
  intro p e s m args below meth c A ls hx hb hml hr hlk hnm hC hLS hA hw hl
  have hC : cx D τ s m args RX11 := hC
  have hl : lv_has ls 2 [(0, .ref (ad 155)), (1, .ref (ad k1))] := hl
  unfold qX11_rightOnesOfTrial at hv
  refine lv_aload_n hx hb dX11_rightOnesOfTrial_0 rfl (lv_at hl 0 rfl) ?_
  refine gf_X11_44 hx hb hC hw 155 (gX_155 τ ad M) rfl dX11_rightOnesOfTrial_1 ?_
  refine lv_aload_n hx hb dX11_rightOnesOfTrial_4 rfl (lv_at hl 0 rfl) ?_
  refine gf_X11_30 hx hb hC hw 155 (gX_155 τ ad M) rfl dX11_rightOnesOfTrial_5 ?_
  refine lv_aload_n hx hb dX11_rightOnesOfTrial_8 rfl (lv_at hl 1 rfl) ?_
  refine k_cVv (wq_X τ ad) hx hb hml hC hLS hA hw hl.1 (mX10_toEnd l D τ ad sA sV _ 8 k1 (by decide) hk1 M hM _ hv) kX10_toEnd ml_X11_394 rfl (gX_160 τ ad M) rfl rfl (Nat.le_of_ble_eq_true rfl) (rm_ok (by decide) (by decide)) ⟨Nat.zero_le _, Nat.zero_le _⟩ dX11_rightOnesOfTrial_9 (fun M1 H locs hM hv hw => ?_)
  refine lv_aload_n hx hb dX11_rightOnesOfTrial_12 rfl (lv_at hl 0 rfl) ?_
  refine gf_X11_30 hx hb hC hw 155 (gX_155 τ ad M1) rfl dX11_rightOnesOfTrial_13 ?_
  refine k_cVi (wq_X τ ad) hx hb hml hC hLS hA hw hl.1 (mX6_rightBits l D τ ad sA sV _ 8 (by decide) M1 hM _ hv) kX6_rightBits ml_X11_397 rfl (gS_X (by decide) τ ad M1) rfl rfl (Nat.le_of_ble_eq_true rfl) (rm_ok (by decide) (by decide)) ⟨Nat.zero_le _, Nat.zero_le _⟩ dX11_rightOnesOfTrial_16 (fun x2 M2 H locs g2 hM hv hw => ?_)
  have hv := hv g2
  exact k_iret (wq_X τ ad) hx hb hr hlk hw hM g2 hv dX11_rightOnesOfTrial_19
set_option maxHeartbeats 4000000 in
set_option maxRecDepth 100000 in
theorem mX6_wrongBits (l : Launch) (D : va_G) (τ : Nat → ClassId) (ad : Nat → Nat) (sA sV : Nat → Nat) (sz : Nat) (k0 : Nat) (hk0 : isS k0) (M : Mem) (hM : MR M) (Q : Int → Mem → Prop) (hv : qX6_wrongBits k0 M Q) : Met l yX6_wrongBits (lw_w yX6_wrongBits cX6_wrongBits 3 (some .int)) (rmk 2 0 0) (kPc D τ sA sV (WX τ ad M) sz [.ref (ad k0)]) (gQi D (EQi (WX τ ad) MR Q) (va_A (WX τ ad M) sz)) 0 0 (va_A (WX τ ad M) sz) := by
  refine k_met (ret := (some .int)) (Qc := gQi D (EQi (WX τ ad) MR Q)) (by decide +kernel) (Nat.le_of_ble_eq_true rfl) ?_
  intro p e s m args below meth c A ls hx hb hml hr hlk hnm hC hLS hA hw hl
  have hC : cx D τ s m args RX6 := hC
  have hl : lv_has ls 3 [(0, .ref (ad k0))] := hl
  unfold qX6_wrongBits at hv
  have L4 : ∀ (n : Nat) (v1 : Int) (v2 : Int) (M : Mem) (H : Heap) (locs : List Loc) (ls : Array Slot), MR M → qX6_wrongBits_L4 k0  Q n v1 v2 M → wS D A s.heap (WX τ ad M) H locs → lv_has ls 3 [(0, .ref (ad k0)), (1, .int (iI v1)), (2, .int (iI v2))] → W p l e (rmk 2 0 0) s m args below meth c H locs 0 0 (MQ below (gQi D (EQi (WX τ ad) MR Q) A) args s 0 0 A) (F0 m 4 ls []) := by
    intro n
    induction n with
    | zero => intro v1 v2 M H locs ls hM hv; rw [qX6_wrongBits_L4] at hv; exact hv.elim
    | succ n ih =>
      intro v1 v2 M H locs ls hM hv hw hl
      rw [qX6_wrongBits_L4] at hv
      refine lv_iload_n hx hb dX6_wrongBits_4 rfl (lv_at hl 2 rfl) ?_
      refine lv_aload_n hx hb dX6_wrongBits_5 rfl (lv_at hl 0 rfl) ?_
      refine gf_X6_34 hx hb hC hw k0 (gS_X hk0 τ ad M) rfl dX6_wrongBits_6 ?_
      refine r_top (fun x1 e1 => ?_)
      have g1 : iR x1 := by rw [e1]; exact hM.get hk0.pos _
      have hv := hv x1 e1 g1
      obtain ⟨c2, hv⟩ := hv
      refine r_icmp_ge (tgt := 44) hx hb dX6_wrongBits_9 (by decide) c2 g1 (fun b3 => ?_) (fun b3 => ?_)
      · have hv := hv.1 b3
        refine lv_iload_n hx hb dX6_wrongBits_44 rfl (lv_at hl 1 rfl) ?_
        obtain ⟨c4, hv⟩ := hv
        exact k_iret (wq_X τ ad) hx hb hr hlk hw hM c4 hv dX6_wrongBits_45
      · have hv := hv.2 b3
        refine lv_iload_n hx hb dX6_wrongBits_12 rfl (lv_at hl 1 rfl) ?_
        refine lv_aload_n hx hb dX6_wrongBits_13 rfl (lv_at hl 0 rfl) ?_
        refine lv_iload_n hx hb dX6_wrongBits_14 rfl (lv_at hl 2 rfl) ?_
        refine k_cVz (wq_X τ ad) hx hb hml hC hLS hA hw hl.1 (mX6_hasEnded l D τ ad sA sV _ k0 v2 hk0 c2 M hM _ hv) kX6_hasEnded ml_X6_63 rfl (gS_X hk0 τ ad M) rfl rfl (Nat.le_of_ble_eq_true rfl) (rm_ok (by decide) (by decide)) ⟨Nat.zero_le _, Nat.zero_le _⟩ dX6_wrongBits_15 (fun x5 M5 H locs g5 z5 hM hv hw => ?_)
        have hv := hv g5 z5
        refine r_if_eq (tgt := 35) hx hb dX6_wrongBits_18 (by decide) g5  (fun b6 => ?_) (fun b6 => ?_)
        · have hv := hv.1 b6
          refine r_iconst hx hb dX6_wrongBits_35 ?_
          refine r_iorF hx hb dX6_wrongBits_36 (fun x7 e7 g7 => ?_)
          have hv := hv x7 e7 g7
          refine lv_istore_n (lv' := [(1, .int (iI x7)), (0, .ref (ad k0)), (2, .int (iI v2))]) hx hb dX6_wrongBits_37 rfl hl (by decide) rfl (fun ls hl => ?_)
          refine r_iinc (v := (v2 + 1)) (lv' := [(2, .int (iI (v2 + 1))), (1, .int (iI x7)), (0, .ref (ad k0))]) hx hb dX6_wrongBits_38 hl (k := 2) rfl rfl (by decide) rfl (fun ls hl => ?_)
          refine lv_goto (tgt := 4) hx hb dX6_wrongBits_41 (by decide) ?_
          exact ih x7 (v2 + 1) M5 _ _ _ hM hv hw (lv_sub hl [2, 1, 0] rfl)
        · have hv := hv.2 b6
          refine lv_aload_n hx hb dX6_wrongBits_21 rfl (lv_at hl 0 rfl) ?_
          refine lv_iload_n hx hb dX6_wrongBits_22 rfl (lv_at hl 2 rfl) ?_
          refine k_cVz (wq_X τ ad) hx hb hml hC hLS hA hw hl.1 (mX6_isRight l D τ ad sA sV _ k0 v2 hk0 c2 M5 hM _ hv) kX6_isRight ml_X6_86 rfl (gS_X hk0 τ ad M5) rfl rfl (Nat.le_of_ble_eq_true rfl) (rm_ok (by decide) (by decide)) ⟨Nat.zero_le _, Nat.zero_le _⟩ dX6_wrongBits_23 (fun x8 M8 H locs g8 z8 hM hv hw => ?_)
          have hv := hv g8 z8
          refine r_if_ne (tgt := 35) hx hb dX6_wrongBits_26 (by decide) g8  (fun b9 => ?_) (fun b9 => ?_)
          · have hv := hv.1 b9
            refine r_iconst hx hb dX6_wrongBits_35 ?_
            refine r_iorF hx hb dX6_wrongBits_36 (fun x10 e10 g10 => ?_)
            have hv := hv x10 e10 g10
            refine lv_istore_n (lv' := [(1, .int (iI x10)), (0, .ref (ad k0)), (2, .int (iI v2))]) hx hb dX6_wrongBits_37 rfl hl (by decide) rfl (fun ls hl => ?_)
            refine r_iinc (v := (v2 + 1)) (lv' := [(2, .int (iI (v2 + 1))), (1, .int (iI x10)), (0, .ref (ad k0))]) hx hb dX6_wrongBits_38 hl (k := 2) rfl rfl (by decide) rfl (fun ls hl => ?_)
            refine lv_goto (tgt := 4) hx hb dX6_wrongBits_41 (by decide) ?_
            exact ih x10 (v2 + 1) M8 _ _ _ hM hv hw (lv_sub hl [2, 1, 0] rfl)
          · have hv := hv.2 b9
            refine r_iconst hx hb dX6_wrongBits_29 ?_
            refine lv_iload_n hx hb dX6_wrongBits_30 rfl (lv_at hl 2 rfl) ?_
            refine r_ishlF hx hb dX6_wrongBits_31 (fun x11 e11 g11 => ?_)
            have hv := hv x11 e11 g11
            refine lv_goto (tgt := 36) hx hb dX6_wrongBits_32 (by decide) ?_
            refine r_iorF hx hb dX6_wrongBits_36 (fun x12 e12 g12 => ?_)
            have hv := hv x12 e12 g12
            refine lv_istore_n (lv' := [(1, .int (iI x12)), (0, .ref (ad k0)), (2, .int (iI v2))]) hx hb dX6_wrongBits_37 rfl hl (by decide) rfl (fun ls hl => ?_)
            refine r_iinc (v := (v2 + 1)) (lv' := [(2, .int (iI (v2 + 1))), (1, .int (iI x12)), (0, .ref (ad k0))]) hx hb dX6_wrongBits_38 hl (k := 2) rfl rfl (by decide) rfl (fun ls hl => ?_)
            refine lv_goto (tgt := 4) hx hb dX6_wrongBits_41 (by decide) ?_
            exact ih x12 (v2 + 1) M8 _ _ _ hM hv hw (lv_sub hl [2, 1, 0] rfl)
  refine r_iconst hx hb dX6_wrongBits_0 ?_
  refine lv_istore_n (lv' := [(1, .int (iI 0)), (0, .ref (ad k0))]) hx hb dX6_wrongBits_1 rfl hl (by decide) rfl (fun ls hl => ?_)
  refine r_iconst hx hb dX6_wrongBits_2 ?_
  refine lv_istore_n (lv' := [(2, .int (iI 0)), (1, .int (iI 0)), (0, .ref (ad k0))]) hx hb dX6_wrongBits_3 rfl hl (by decide) rfl (fun ls hl => ?_)
  obtain ⟨n13, hv⟩ := hv
  refine L4  n13 0 0 M _ _ _ hM hv hw (lv_sub hl [2, 1, 0] rfl)
set_option maxHeartbeats 4000000 in
set_option maxRecDepth 100000 in
theorem mX11_right (l : Launch) (D : va_G) (τ : Nat → ClassId) (ad : Nat → Nat) (sA sV : Nat → Nat) (sz : Nat)   (M : Mem) (hM : MR M) (Q : Int → Mem → Prop) (hv : qX11_right  M Q) : Met l yX11_right (lw_w yX11_right cX11_right 2 (some .int)) (rmk 7 0 0) (kPc D τ sA sV (WX τ ad M) sz [.ref (ad 155)]) (gQi D (EQi (WX τ ad) MR Q) (va_A (WX τ ad M) sz)) 0 0 (va_A (WX τ ad M) sz) := by
  refine k_met (ret := (some .int)) (Qc := gQi D (EQi (WX τ ad) MR Q)) (by decide +kernel) (Nat.le_of_ble_eq_true rfl) ?_
  intro p e s m args below meth c A ls hx hb hml hr hlk hnm hC hLS hA hw hl
  have hC : cx D τ s m args RX11 := hC
  have hl : lv_has ls 2 [(0, .ref (ad 155))] := hl
  unfold qX11_right at hv
  refine lv_aload_n hx hb dX11_right_0 rfl (lv_at hl 0 rfl) ?_
  refine gf_X11_30 hx hb hC hw 155 (gX_155 τ ad M) rfl dX11_right_1 ?_
  refine lv_aload_n hx hb dX11_right_4 rfl (lv_at hl 0 rfl) ?_
  refine gf_X11_26 hx hb hC hw 155 (gX_155 τ ad M) rfl dX11_right_5 ?_
  refine k_cVv (wq_X τ ad) hx hb hml hC hLS hA hw hl.1 (mX6_copyFrom l D τ ad sA sV _ 8 1 (by decide) (by decide) M hM _ hv) kX6_copyFrom ml_X11_153 rfl (gS_X (by decide) τ ad M) rfl rfl (Nat.le_of_ble_eq_true rfl) (rm_ok (by decide) (by decide)) ⟨Nat.zero_le _, Nat.zero_le _⟩ dX11_right_8 (fun M1 H locs hM hv hw => ?_)
  refine lv_aload_n hx hb dX11_right_11 rfl (lv_at hl 0 rfl) ?_
  refine lv_aload_n hx hb dX11_right_12 rfl (lv_at hl 0 rfl) ?_
  refine gf_X11_105 hx hb hC hw 155 (gX_155 τ ad M1) rfl dX11_right_13 ?_
  obtain ⟨c2, hv⟩ := hv
  refine k_cVi (wq_X τ ad) hx hb hml hC hLS hA hw hl.1 (mX11_rightOnesOfTrial l D τ ad sA sV _ (M1 155 16).toNat c2 M1 hM _ hv) kX11_rightOnesOfTrial ml_X11_382 rfl (gX_155 τ ad M1) rfl rfl (Nat.le_of_ble_eq_true rfl) (rm_ok (by decide) (by decide)) ⟨Nat.zero_le _, Nat.zero_le _⟩ dX11_right_16 (fun x3 M3 H locs g3 hM hv hw => ?_)
  have hv := hv g3
  refine lv_istore_n (lv' := [(1, .int (iI x3)), (0, .ref (ad 155))]) hx hb dX11_right_19 rfl hl (by decide) rfl (fun ls hl => ?_)
  refine lv_aload_n hx hb dX11_right_20 rfl (lv_at hl 1 rfl) ?_
  refine gf_X11_66 hx hb hC hw 155 (gX_155 τ ad M3) rfl dX11_right_21 ?_
  refine lv_iload_n hx hb dX11_right_24 rfl (lv_at hl 0 rfl) ?_
  refine r_i2l hx hb dX11_right_25 g3 ?_
  refine lv_aload_n hx hb dX11_right_26 rfl (lv_at hl 1 rfl) ?_
  refine gf_X11_30 hx hb hC hw 155 (gX_155 τ ad M3) rfl dX11_right_27 ?_
  refine k_cVi (wq_X τ ad) hx hb hml hC hLS hA hw hl.1 (mX6_wrongBits l D τ ad sA sV _ 8 (by decide) M3 hM _ hv) kX6_wrongBits ml_X11_386 rfl (gS_X (by decide) τ ad M3) rfl rfl (Nat.le_of_ble_eq_true rfl) (rm_ok (by decide) (by decide)) ⟨Nat.zero_le _, Nat.zero_le _⟩ dX11_right_30 (fun x4 M4 H locs g4 hM hv hw => ?_)
  have hv := hv g4
  refine r_i2l hx hb dX11_right_33 g4 ?_
  refine k_cVv (wq_X τ ad) hx hb hml hC hLS hA hw hl.1 (mX4_tellTwo l D τ ad sA sV _ x3 x4 (iR_lR g3) (iR_lR g4) M4 hM _ hv) kX4_tellTwo ml_X11_298 rfl (gX_167 τ ad M4) rfl rfl (Nat.le_of_ble_eq_true rfl) (rm_ok (by decide) (by decide)) ⟨Nat.zero_le _, Nat.zero_le _⟩ dX11_right_34 (fun M5 H locs hM hv hw => ?_)
  refine lv_iload_n hx hb dX11_right_37 rfl (lv_at hl 0 rfl) ?_
  refine k_cSi (wq_X τ ad) hx hb hml hC hLS hA hw hl.1 (mJ6_bitCount_0f7a4X l D τ ad sA sV _ x3 g3 M5 hM _ hv) kJ6_bitCount_0f7a4 ml_X11_389 rfl rfl (Nat.le_of_ble_eq_true rfl) (rm_ok (by decide) (by decide)) ⟨Nat.zero_le _, Nat.zero_le _⟩ dX11_right_38 (fun x6 M6 H locs g6 hM hv hw => ?_)
  have hv := hv g6
  exact k_iret (wq_X τ ad) hx hb hr hlk hw hM g6 hv dX11_right_41
set_option maxHeartbeats 4000000 in
set_option maxRecDepth 100000 in
theorem mX3_begin (l : Launch) (D : va_G) (τ : Nat → ClassId) (ad : Nat → Nat) (sA sV : Nat → Nat) (sz : Nat) (k1 : Nat) (hk1 : isS k1) (M : Mem) (hM : MR M) (Q : Mem → Prop) (hv : qX3_begin k1 M Q) : Met l yX3_begin (lw_w yX3_begin cX3_begin 4 none) (rmk 2 0 0) (kPc D τ sA sV (WX τ ad M) sz [.ref (ad 179), .ref (ad k1), .ref (ad 158)]) (gQv D (EQv (WX τ ad) MR Q) (va_A (WX τ ad M) sz)) 0 0 (va_A (WX τ ad M) sz) := by
  refine k_met (ret := none) (Qc := gQv D (EQv (WX τ ad) MR Q)) (by decide +kernel) (Nat.le_of_ble_eq_true rfl) ?_
  intro p e s m args below meth c A ls hx hb hml hr hlk hnm hC hLS hA hw hl
  have hC : cx D τ s m args RX3 := hC
  have hl : lv_has ls 4 [(0, .ref (ad 179)), (1, .ref (ad k1)), (2, .ref (ad 158))] := hl
  unfold qX3_begin at hv
  have L7 : ∀ (n : Nat) (v3 : Int) (M : Mem) (H : Heap) (locs : List Loc) (ls : Array Slot), MR M → qX3_begin_L7 k1  Q n v3 M → wS D A s.heap (WX τ ad M) H locs → lv_has ls 4 [(0, .ref (ad 179)), (1, .ref (ad k1)), (2, .ref (ad 158)), (3, .int (iI v3))] → W p l e (rmk 2 0 0) s m args below meth c H locs 0 0 (MQ below (gQv D (EQv (WX τ ad) MR Q) A) args s 0 0 A) (F0 m 7 ls []) := by
    intro n
    induction n with
    | zero => intro v3 M H locs ls hM hv; rw [qX3_begin_L7] at hv; exact hv.elim
    | succ n ih =>
      intro v3 M H locs ls hM hv hw hl
      rw [qX3_begin_L7] at hv
      refine lv_iload_n hx hb dX3_begin_7 rfl (lv_at hl 3 rfl) ?_
      refine lv_aload_n hx hb dX3_begin_8 rfl (lv_at hl 2 rfl) ?_
      refine gf_X3_22 hx hb hC hw 158 (gX_158 τ ad M) rfl dX3_begin_9 ?_
      refine r_top (fun x2 e2 => ?_)
      have g2 : iR x2 := by rw [e2]; exact hM.get (by decide) _
      have hv := hv x2 e2 g2
      obtain ⟨c3, hv⟩ := hv
      refine r_icmp_ge (tgt := 59) hx hb dX3_begin_12 (by decide) c3 g2 (fun b4 => ?_) (fun b4 => ?_)
      · have hv := hv.1 b4
        exact k_vret (wq_X τ ad) hx hb hr hlk hw hM hv dX3_begin_59
      · have hv := hv.2 b4
        refine lv_aload_n hx hb dX3_begin_15 rfl (lv_at hl 0 rfl) ?_
        refine gf_X3_18 hx hb hC hw 179 (gX_179 τ ad M) rfl dX3_begin_16 ?_
        refine r_top (fun x5 e5 => ?_)
        have g5 : iR x5 := by rw [e5]; exact hM.get (by decide) _
        have hv := hv x5 e5 g5
        refine r_bipush hx hb dX3_begin_19 (by decide +kernel) ?_
        refine r_icmp_ge (tgt := 59) hx hb dX3_begin_21 (by decide) g5 (by decide) (fun b6 => ?_) (fun b6 => ?_)
        · have hv := hv.1 b6
          exact k_vret (wq_X τ ad) hx hb hr hlk hw hM hv dX3_begin_59
        · have hv := hv.2 b6
          refine lv_aload_n hx hb dX3_begin_24 rfl (lv_at hl 1 rfl) ?_
          refine lv_iload_n hx hb dX3_begin_25 rfl (lv_at hl 3 rfl) ?_
          refine k_cVi (wq_X τ ad) hx hb hml hC hLS hA hw hl.1 (mX6_hearseOn l D τ ad sA sV _ k1 v3 hk1 c3 M hM _ hv) kX6_hearseOn ml_X3_26 rfl (gS_X hk1 τ ad M) rfl rfl (Nat.le_of_ble_eq_true rfl) (rm_ok (by decide) (by decide)) ⟨Nat.zero_le _, Nat.zero_le _⟩ dX3_begin_26 (fun x7 M7 H locs g7 hM hv hw => ?_)
          have hv := hv g7
          refine r_iconst hx hb dX3_begin_29 ?_
          refine r_icmp_eq (tgt := 53) hx hb dX3_begin_30 (by decide) g7 (by decide) (fun b8 => ?_) (fun b8 => ?_)
          · have hv := hv.1 b8
            refine r_iinc (v := (v3 + 1)) (lv' := [(3, .int (iI (v3 + 1))), (0, .ref (ad 179)), (1, .ref (ad k1)), (2, .ref (ad 158))]) hx hb dX3_begin_53 hl (k := 3) rfl rfl (by decide) rfl (fun ls hl => ?_)
            refine lv_goto (tgt := 7) hx hb dX3_begin_56 (by decide) ?_
            exact ih (v3 + 1) M7 _ _ _ hM hv hw (lv_sub hl [1, 2, 3, 0] rfl)
          · have hv := hv.2 b8
            refine lv_aload_n hx hb dX3_begin_33 rfl (lv_at hl 0 rfl) ?_
            refine gf_X3_9 hx hb hC hw 179 (gX_179 τ ad M7) rfl dX3_begin_34 ?_
            refine lv_aload_n hx hb dX3_begin_37 rfl (lv_at hl 0 rfl) ?_
            refine gf_X3_18 hx hb hC hw 179 (gX_179 τ ad M7) rfl dX3_begin_38 ?_
            refine r_top (fun x9 e9 => ?_)
            have g9 : iR x9 := by rw [e9]; exact hM.get (by decide) _
            have hv := hv x9 e9 g9
            refine lv_iload_n hx hb dX3_begin_41 rfl (lv_at hl 3 rfl) ?_
            obtain ⟨c10, hv⟩ := hv
            obtain ⟨c11, hv⟩ := hv
            obtain ⟨M12, e12⟩ : ∃ M12 : Mem, M12 = up2 M7 180 x9 v3 := ⟨_, rfl⟩
            have hv := hv M12 e12
            refine r_iast (ws' := (WX τ ad M12)) hx hb hC hw 180 (gI_X aX_180 τ ad M7) c10 c11 (by decide) (by rw [e12]; exact sI_X aX_180 τ ad M7 _ _) dX3_begin_42 (fun H locs hw => ?_)
            have hM : MR M12 := by rw [e12]; exact hM.put aX_180.pos c3
            refine lv_aload_n hx hb dX3_begin_43 rfl (lv_at hl 0 rfl) ?_
            refine lv_dup hx hb dX3_begin_44 rfl ?_
            refine gf_X3_18 hx hb hC hw 179 (gX_179 τ ad M12) rfl dX3_begin_45 ?_
            refine r_top (fun x13 e13 => ?_)
            have g13 : iR x13 := by rw [e13]; exact hM.get (by decide) _
            have hv := hv x13 e13 g13
            refine r_iconst hx hb dX3_begin_48 ?_
            refine r_iadd (z := (x13 + 1)) hx hb dX3_begin_49 rfl ?_
            obtain ⟨c14, hv⟩ := hv
            obtain ⟨M15, e15⟩ : ∃ M15 : Mem, M15 = up2 M12 179 2 (x13 + 1) := ⟨_, rfl⟩
            have hv := hv M15 e15
            refine pf_X3_18 (ws' := (WX τ ad M15)) hx hb hC hw 179 (gX_179 τ ad M12) (Nat.le_of_ble_eq_true rfl) (by rw [e15]; exact sX_179_2 τ ad M12 _) dX3_begin_50 (fun H locs hw => ?_)
            have hM : MR M15 := by rw [e15]; exact hM.put (by decide) c14
            refine r_iinc (v := (v3 + 1)) (lv' := [(3, .int (iI (v3 + 1))), (0, .ref (ad 179)), (1, .ref (ad k1)), (2, .ref (ad 158))]) hx hb dX3_begin_53 hl (k := 3) rfl rfl (by decide) rfl (fun ls hl => ?_)
            refine lv_goto (tgt := 7) hx hb dX3_begin_56 (by decide) ?_
            exact ih (v3 + 1) M15 _ _ _ hM hv hw (lv_sub hl [1, 2, 3, 0] rfl)
  refine lv_aload_n hx hb dX3_begin_0 rfl (lv_at hl 0 rfl) ?_
  refine r_iconst hx hb dX3_begin_1 ?_
  obtain ⟨M1, e1⟩ : ∃ M1 : Mem, M1 = up2 M 179 2 0 := ⟨_, rfl⟩
  have hv := hv M1 e1
  refine pf_X3_18 (ws' := (WX τ ad M1)) hx hb hC hw 179 (gX_179 τ ad M) (Nat.le_of_ble_eq_true rfl) (by rw [e1]; exact sX_179_2 τ ad M _) dX3_begin_2 (fun H locs hw => ?_)
  have hM : MR M1 := by rw [e1]; exact hM.put (by decide) (by decide)
  refine r_iconst hx hb dX3_begin_5 ?_
  refine lv_istore_n (lv' := [(3, .int (iI 0)), (0, .ref (ad 179)), (1, .ref (ad k1)), (2, .ref (ad 158))]) hx hb dX3_begin_6 rfl hl (by decide) rfl (fun ls hl => ?_)
  obtain ⟨n16, hv⟩ := hv
  refine L7  n16 0 M1 _ _ _ hM hv hw (lv_sub hl [1, 2, 3, 0] rfl)
set_option maxHeartbeats 4000000 in
set_option maxRecDepth 100000 in
theorem mX3_markBest (l : Launch) (D : va_G) (τ : Nat → ClassId) (ad : Nat → Nat) (sA sV : Nat → Nat) (sz : Nat)   (M : Mem) (hM : MR M) (Q : Mem → Prop) (hv : qX3_markBest  M Q) : Met l yX3_markBest (lw_w yX3_markBest cX3_markBest 1 none) (rmk 1 0 0) (kPc D τ sA sV (WX τ ad M) sz [.ref (ad 179)]) (gQv D (EQv (WX τ ad) MR Q) (va_A (WX τ ad M) sz)) 0 0 (va_A (WX τ ad M) sz) := by
  refine k_met (ret := none) (Qc := gQv D (EQv (WX τ ad) MR Q)) (by decide +kernel) (Nat.le_of_ble_eq_true rfl) ?_
  intro p e s m args below meth c A ls hx hb hml hr hlk hnm hC hLS hA hw hl
  have hC : cx D τ s m args RX3 := hC
  have hl : lv_has ls 1 [(0, .ref (ad 179))] := hl
  unfold qX3_markBest at hv
  refine lv_aload_n hx hb dX3_markBest_0 rfl (lv_at hl 0 rfl) ?_
  refine gf_X3_9 hx hb hC hw 179 (gX_179 τ ad M) rfl dX3_markBest_1 ?_
  refine r_iconst hx hb dX3_markBest_4 ?_
  refine lv_aload_n hx hb dX3_markBest_5 rfl (lv_at hl 0 rfl) ?_
  refine gf_X3_15 hx hb hC hw 179 (gX_179 τ ad M) rfl dX3_markBest_6 ?_
  refine r_iconst hx hb dX3_markBest_9 ?_
  refine r_bipush hx hb dX3_markBest_10 (by decide +kernel) ?_
  obtain ⟨M1, e1⟩ : ∃ M1 : Mem, M1 = cp2 M 180 181 6 := ⟨_, rfl⟩
  have hv := hv M1 e1
  refine r_copy (ws' := (WX τ ad M1)) hx hb hml hC hl.1 ml_X3_32 nm_arraycopy sm_arraycopy in_J10 hw 180 181 (gI_X aX_180 τ ad M) (gI_X aX_181 τ ad M) (by decide) (by decide) (by decide) (by decide) (by rw [e1]; exact cI_X aX_181 τ ad M 180 _) (by decide) (Nat.le_of_ble_eq_true rfl) (by decide) dX3_markBest_12 (fun H locs hw => ?_)
  have hM : MR M1 := by rw [e1]; exact hM.copy aX_180.pos aX_181.pos
  exact k_vret (wq_X τ ad) hx hb hr hlk hw hM hv dX3_markBest_15
set_option maxHeartbeats 4000000 in
set_option maxRecDepth 100000 in
theorem mX3_exchangeCells (l : Launch) (D : va_G) (τ : Nat → ClassId) (ad : Nat → Nat) (sA sV : Nat → Nat) (sz : Nat) (p1 : Int) (p2 : Int) (hp1 : iR p1) (hp2 : iR p2) (M : Mem) (hM : MR M) (Q : Mem → Prop) (hv : qX3_exchangeCells p1 p2 M Q) : Met l yX3_exchangeCells (lw_w yX3_exchangeCells cX3_exchangeCells 4 none) (rmk 1 0 0) (kPc D τ sA sV (WX τ ad M) sz [.ref (ad 179), .int (iI p1), .int (iI p2)]) (gQv D (EQv (WX τ ad) MR Q) (va_A (WX τ ad M) sz)) 0 0 (va_A (WX τ ad M) sz) := by
  refine k_met (ret := none) (Qc := gQv D (EQv (WX τ ad) MR Q)) (by decide +kernel) (Nat.le_of_ble_eq_true rfl) ?_
  intro p e s m args below meth c A ls hx hb hml hr hlk hnm hC hLS hA hw hl
  have hC : cx D τ s m args RX3 := hC
  have hl : lv_has ls 4 [(0, .ref (ad 179)), (1, .int (iI p1)), (2, .int (iI p2))] := hl
  unfold qX3_exchangeCells at hv
  refine lv_aload_n hx hb dX3_exchangeCells_0 rfl (lv_at hl 0 rfl) ?_
  refine gf_X3_9 hx hb hC hw 179 (gX_179 τ ad M) rfl dX3_exchangeCells_1 ?_
  refine lv_iload_n hx hb dX3_exchangeCells_4 rfl (lv_at hl 1 rfl) ?_
  obtain ⟨c1, hv⟩ := hv
  obtain ⟨c2, hv⟩ := hv
  refine r_iald hx hb hC hw 180 (gI_X aX_180 τ ad M) c1 c2 (by decide) dX3_exchangeCells_5 ?_
  refine r_top (fun x3 e3 => ?_)
  have g3 : iR x3 := by rw [e3]; exact hM.get aX_180.pos _
  have hv := hv x3 e3 g3
  refine lv_istore_n (lv' := [(3, .int (iI x3)), (0, .ref (ad 179)), (1, .int (iI p1)), (2, .int (iI p2))]) hx hb dX3_exchangeCells_6 rfl hl (by decide) rfl (fun ls hl => ?_)
  refine lv_aload_n hx hb dX3_exchangeCells_7 rfl (lv_at hl 1 rfl) ?_
  refine gf_X3_9 hx hb hC hw 179 (gX_179 τ ad M) rfl dX3_exchangeCells_8 ?_
  refine lv_iload_n hx hb dX3_exchangeCells_11 rfl (lv_at hl 2 rfl) ?_
  refine lv_aload_n hx hb dX3_exchangeCells_12 rfl (lv_at hl 1 rfl) ?_
  refine gf_X3_9 hx hb hC hw 179 (gX_179 τ ad M) rfl dX3_exchangeCells_13 ?_
  refine lv_iload_n hx hb dX3_exchangeCells_16 rfl (lv_at hl 3 rfl) ?_
  obtain ⟨c4, hv⟩ := hv
  obtain ⟨c5, hv⟩ := hv
  refine r_iald hx hb hC hw 180 (gI_X aX_180 τ ad M) c4 c5 (by decide) dX3_exchangeCells_17 ?_
  refine r_top (fun x6 e6 => ?_)
  have g6 : iR x6 := by rw [e6]; exact hM.get aX_180.pos _
  have hv := hv x6 e6 g6
  obtain ⟨M7, e7⟩ : ∃ M7 : Mem, M7 = up2 M 180 p1 x6 := ⟨_, rfl⟩
  have hv := hv M7 e7
  refine r_iast (ws' := (WX τ ad M7)) hx hb hC hw 180 (gI_X aX_180 τ ad M) c1 c2 (by decide) (by rw [e7]; exact sI_X aX_180 τ ad M _ _) dX3_exchangeCells_18 (fun H locs hw => ?_)
  have hM : MR M7 := by rw [e7]; exact hM.put aX_180.pos g6
  refine lv_aload_n hx hb dX3_exchangeCells_19 rfl (lv_at hl 1 rfl) ?_
  refine gf_X3_9 hx hb hC hw 179 (gX_179 τ ad M7) rfl dX3_exchangeCells_20 ?_
  refine lv_iload_n hx hb dX3_exchangeCells_23 rfl (lv_at hl 3 rfl) ?_
  refine lv_iload_n hx hb dX3_exchangeCells_24 rfl (lv_at hl 0 rfl) ?_
  obtain ⟨M8, e8⟩ : ∃ M8 : Mem, M8 = up2 M7 180 p2 x3 := ⟨_, rfl⟩
  have hv := hv M8 e8
  refine r_iast (ws' := (WX τ ad M8)) hx hb hC hw 180 (gI_X aX_180 τ ad M7) c4 c5 (by decide) (by rw [e8]; exact sI_X aX_180 τ ad M7 _ _) dX3_exchangeCells_25 (fun H locs hw => ?_)
  have hM : MR M8 := by rw [e8]; exact hM.put aX_180.pos g3
  exact k_vret (wq_X τ ad) hx hb hr hlk hw hM hv dX3_exchangeCells_26
set_option maxHeartbeats 4000000 in
set_option maxRecDepth 100000 in
theorem mX3_toNext (l : Launch) (D : va_G) (τ : Nat → ClassId) (ad : Nat → Nat) (sA sV : Nat → Nat) (sz : Nat)   (M : Mem) (hM : MR M) (Q : Int → Mem → Prop) (hv : qX3_toNext  M Q) : Met l yX3_toNext (lw_w yX3_toNext cX3_toNext 5 (some .boolean)) (rmk 2 0 0) (kPc D τ sA sV (WX τ ad M) sz [.ref (ad 179)]) (gQi D (EQz (WX τ ad) MR Q) (va_A (WX τ ad M) sz)) 0 0 (va_A (WX τ ad M) sz) := by
  refine k_met (ret := (some .boolean)) (Qc := gQi D (EQz (WX τ ad) MR Q)) (by decide +kernel) (Nat.le_of_ble_eq_true rfl) ?_
  intro p e s m args below meth c A ls hx hb hml hr hlk hnm hC hLS hA hw hl
  have hC : cx D τ s m args RX3 := hC
  have hl : lv_has ls 5 [(0, .ref (ad 179))] := hl
  unfold qX3_toNext at hv
  have L7 : ∀ (X34 : Int → Mem → Prop), (∀ (v1 : Int) (M : Mem) (H : Heap) (locs : List Loc) (ls : Array Slot), MR M → X34 v1 M → wS D A s.heap (WX τ ad M) H locs → lv_has ls 5 [(0, .ref (ad 179)), (1, .int (iI v1))] → W p l e (rmk 2 0 0) s m args below meth c H locs 0 0 (MQ below (gQi D (EQz (WX τ ad) MR Q) A) args s 0 0 A) (F0 m 34 ls [])) → ∀ (n : Nat) (v1 : Int) (M : Mem) (H : Heap) (locs : List Loc) (ls : Array Slot), MR M → qX3_toNext_L7  X34 Q n v1 M → wS D A s.heap (WX τ ad M) H locs → lv_has ls 5 [(0, .ref (ad 179)), (1, .int (iI v1))] → W p l e (rmk 2 0 0) s m args below meth c H locs 0 0 (MQ below (gQi D (EQz (WX τ ad) MR Q) A) args s 0 0 A) (F0 m 7 ls []) := by
    intro X34 hX34 n
    induction n with
    | zero => intro v1 M H locs ls hM hv; rw [qX3_toNext_L7] at hv; exact hv.elim
    | succ n ih =>
      intro v1 M H locs ls hM hv hw hl
      rw [qX3_toNext_L7] at hv
      refine lv_iload_n hx hb dX3_toNext_7 rfl (lv_at hl 1 rfl) ?_
      obtain ⟨c2, hv⟩ := hv
      refine r_if_lt (tgt := 34) hx hb dX3_toNext_8 (by decide) c2  (fun b3 => ?_) (fun b3 => ?_)
      · have hv := hv.1 b3
        exact hX34 v1 M _ _ _ hM hv hw (lv_sub hl [0, 1] rfl)
      · have hv := hv.2 b3
        refine lv_aload_n hx hb dX3_toNext_11 rfl (lv_at hl 0 rfl) ?_
        refine gf_X3_9 hx hb hC hw 179 (gX_179 τ ad M) rfl dX3_toNext_12 ?_
        refine lv_iload_n hx hb dX3_toNext_15 rfl (lv_at hl 1 rfl) ?_
        obtain ⟨c4, hv⟩ := hv
        obtain ⟨c5, hv⟩ := hv
        refine r_iald hx hb hC hw 180 (gI_X aX_180 τ ad M) c4 c5 (by decide) dX3_toNext_16 ?_
        refine r_top (fun x6 e6 => ?_)
        have g6 : iR x6 := by rw [e6]; exact hM.get aX_180.pos _
        have hv := hv x6 e6 g6
        refine lv_aload_n hx hb dX3_toNext_17 rfl (lv_at hl 0 rfl) ?_
        refine gf_X3_9 hx hb hC hw 179 (gX_179 τ ad M) rfl dX3_toNext_18 ?_
        refine lv_iload_n hx hb dX3_toNext_21 rfl (lv_at hl 1 rfl) ?_
        refine r_iconst hx hb dX3_toNext_22 ?_
        refine r_iadd (z := (v1 + 1)) hx hb dX3_toNext_23 rfl ?_
        obtain ⟨c7, hv⟩ := hv
        obtain ⟨c8, hv⟩ := hv
        refine r_iald hx hb hC hw 180 (gI_X aX_180 τ ad M) c7 c8 (by decide) dX3_toNext_24 ?_
        refine r_top (fun x9 e9 => ?_)
        have g9 : iR x9 := by rw [e9]; exact hM.get aX_180.pos _
        have hv := hv x9 e9 g9
        refine r_icmp_le (tgt := 34) hx hb dX3_toNext_25 (by decide) g6 g9 (fun b10 => ?_) (fun b10 => ?_)
        · have hv := hv.1 b10
          exact hX34 v1 M _ _ _ hM hv hw (lv_sub hl [0, 1] rfl)
        · have hv := hv.2 b10
          refine r_iinc (v := (v1 + (-1))) (lv' := [(1, .int (iI (v1 + (-1)))), (0, .ref (ad 179))]) hx hb dX3_toNext_28 hl (k := 1) rfl rfl (by decide) rfl (fun ls hl => ?_)
          refine lv_goto (tgt := 7) hx hb dX3_toNext_31 (by decide) ?_
          exact ih (v1 + (-1)) M _ _ _ hM hv hw (lv_sub hl [1, 0] rfl)
  have L47 : ∀ (X73 : Int → Int → Mem → Prop), (∀ (v1 : Int) (v2 : Int) (M : Mem) (H : Heap) (locs : List Loc) (ls : Array Slot), MR M → X73 v1 v2 M → wS D A s.heap (WX τ ad M) H locs → lv_has ls 5 [(0, .ref (ad 179)), (1, .int (iI v1)), (2, .int (iI v2))] → W p l e (rmk 2 0 0) s m args below meth c H locs 0 0 (MQ below (gQi D (EQz (WX τ ad) MR Q) A) args s 0 0 A) (F0 m 73 ls [])) → ∀ (n : Nat) (v1 : Int) (v2 : Int) (M : Mem) (H : Heap) (locs : List Loc) (ls : Array Slot), MR M → qX3_toNext_L47  X73 Q n v1 v2 M → wS D A s.heap (WX τ ad M) H locs → lv_has ls 5 [(0, .ref (ad 179)), (1, .int (iI v1)), (2, .int (iI v2))] → W p l e (rmk 2 0 0) s m args below meth c H locs 0 0 (MQ below (gQi D (EQz (WX τ ad) MR Q) A) args s 0 0 A) (F0 m 47 ls []) := by
    intro X73 hX73 n
    induction n with
    | zero => intro v1 v2 M H locs ls hM hv; rw [qX3_toNext_L47] at hv; exact hv.elim
    | succ n ih =>
      intro v1 v2 M H locs ls hM hv hw hl
      rw [qX3_toNext_L47] at hv
      refine lv_iload_n hx hb dX3_toNext_47 rfl (lv_at hl 2 rfl) ?_
      refine lv_iload_n hx hb dX3_toNext_48 rfl (lv_at hl 1 rfl) ?_
      obtain ⟨c15, hv⟩ := hv
      obtain ⟨c16, hv⟩ := hv
      refine r_icmp_le (tgt := 73) hx hb dX3_toNext_49 (by decide) c15 c16 (fun b17 => ?_) (fun b17 => ?_)
      · have hv := hv.1 b17
        exact hX73 v1 v2 M _ _ _ hM hv hw (lv_sub hl [0, 1, 2] rfl)
      · have hv := hv.2 b17
        refine lv_aload_n hx hb dX3_toNext_52 rfl (lv_at hl 0 rfl) ?_
        refine gf_X3_9 hx hb hC hw 179 (gX_179 τ ad M) rfl dX3_toNext_53 ?_
        refine lv_iload_n hx hb dX3_toNext_56 rfl (lv_at hl 2 rfl) ?_
        obtain ⟨c18, hv⟩ := hv
        obtain ⟨c19, hv⟩ := hv
        refine r_iald hx hb hC hw 180 (gI_X aX_180 τ ad M) c18 c19 (by decide) dX3_toNext_57 ?_
        refine r_top (fun x20 e20 => ?_)
        have g20 : iR x20 := by rw [e20]; exact hM.get aX_180.pos _
        have hv := hv x20 e20 g20
        refine lv_aload_n hx hb dX3_toNext_58 rfl (lv_at hl 0 rfl) ?_
        refine gf_X3_9 hx hb hC hw 179 (gX_179 τ ad M) rfl dX3_toNext_59 ?_
        refine lv_iload_n hx hb dX3_toNext_62 rfl (lv_at hl 1 rfl) ?_
        obtain ⟨c21, hv⟩ := hv
        obtain ⟨c22, hv⟩ := hv
        refine r_iald hx hb hC hw 180 (gI_X aX_180 τ ad M) c21 c22 (by decide) dX3_toNext_63 ?_
        refine r_top (fun x23 e23 => ?_)
        have g23 : iR x23 := by rw [e23]; exact hM.get aX_180.pos _
        have hv := hv x23 e23 g23
        refine r_icmp_ge (tgt := 73) hx hb dX3_toNext_64 (by decide) g20 g23 (fun b24 => ?_) (fun b24 => ?_)
        · have hv := hv.1 b24
          exact hX73 v1 v2 M _ _ _ hM hv hw (lv_sub hl [0, 1, 2] rfl)
        · have hv := hv.2 b24
          refine r_iinc (v := (v2 + (-1))) (lv' := [(2, .int (iI (v2 + (-1)))), (0, .ref (ad 179)), (1, .int (iI v1))]) hx hb dX3_toNext_67 hl (k := 2) rfl rfl (by decide) rfl (fun ls hl => ?_)
          refine lv_goto (tgt := 47) hx hb dX3_toNext_70 (by decide) ?_
          exact ih v1 (v2 + (-1)) M _ _ _ hM hv hw (lv_sub hl [1, 2, 0] rfl)
  have L91 : ∀ (n : Nat) (v3 : Int) (v4 : Int) (M : Mem) (H : Heap) (locs : List Loc) (ls : Array Slot), MR M → qX3_toNext_L91   Q n v3 v4 M → wS D A s.heap (WX τ ad M) H locs → lv_has ls 5 [(0, .ref (ad 179)), (3, .int (iI v3)), (4, .int (iI v4))] → W p l e (rmk 2 0 0) s m args below meth c H locs 0 0 (MQ below (gQi D (EQz (WX τ ad) MR Q) A) args s 0 0 A) (F0 m 91 ls []) := by
    intro n
    induction n with
    | zero => intro v3 v4 M H locs ls hM hv; rw [qX3_toNext_L91] at hv; exact hv.elim
    | succ n ih =>
      intro v3 v4 M H locs ls hM hv hw hl
      rw [qX3_toNext_L91] at hv
      refine lv_iload_n hx hb dX3_toNext_91 rfl (lv_at hl 1 rfl) ?_
      refine lv_iload hx hb dX3_toNext_92 (lv_at hl 2 rfl) ?_
      obtain ⟨c30, hv⟩ := hv
      obtain ⟨c31, hv⟩ := hv
      refine r_icmp_ge (tgt := 113) hx hb dX3_toNext_94 (by decide) c30 c31 (fun b32 => ?_) (fun b32 => ?_)
      · have hv := hv.1 b32
        refine r_iconst hx hb dX3_toNext_113 ?_
        exact k_zret (wq_X τ ad) hx hb hr hlk hw hM (by decide) (by decide) hv dX3_toNext_114
      · have hv := hv.2 b32
        refine lv_aload_n hx hb dX3_toNext_97 rfl (lv_at hl 0 rfl) ?_
        refine lv_iload_n hx hb dX3_toNext_98 rfl (lv_at hl 1 rfl) ?_
        refine lv_iload hx hb dX3_toNext_99 (lv_at hl 2 rfl) ?_
        refine k_cVv (wq_X τ ad) hx hb hml hC hLS hA hw hl.1 (mX3_exchangeCells l D τ ad sA sV _ v3 v4 c30 c31 M hM _ hv) kX3_exchangeCells ml_X3_38 rfl (gX_179 τ ad M) rfl rfl (Nat.le_of_ble_eq_true rfl) (rm_ok (by decide) (by decide)) ⟨Nat.zero_le _, Nat.zero_le _⟩ dX3_toNext_101 (fun M33 H locs hM hv hw => ?_)
        refine r_iinc (v := (v3 + 1)) (lv' := [(3, .int (iI (v3 + 1))), (0, .ref (ad 179)), (4, .int (iI v4))]) hx hb dX3_toNext_104 hl (k := 1) rfl rfl (by decide) rfl (fun ls hl => ?_)
        refine r_iinc (v := (v4 + (-1))) (lv' := [(4, .int (iI (v4 + (-1)))), (3, .int (iI (v3 + 1))), (0, .ref (ad 179))]) hx hb dX3_toNext_107 hl (k := 2) rfl rfl (by decide) rfl (fun ls hl => ?_)
        refine lv_goto (tgt := 91) hx hb dX3_toNext_110 (by decide) ?_
        exact ih (v3 + 1) (v4 + (-1)) M33 _ _ _ hM hv hw (lv_sub hl [2, 1, 0] rfl)
  have J73 : ∀ (v1 : Int) (v2 : Int) (M : Mem) (H : Heap) (locs : List Loc) (ls : Array Slot), MR M → qX3_toNext_J73  Q v1 v2 M → wS D A s.heap (WX τ ad M) H locs → lv_has ls 5 [(0, .ref (ad 179)), (1, .int (iI v1)), (2, .int (iI v2))] → W p l e (rmk 2 0 0) s m args below meth c H locs 0 0 (MQ below (gQi D (EQz (WX τ ad) MR Q) A) args s 0 0 A) (F0 m 73 ls []) := by
    intro v1 v2 M H locs ls hM hv hw hl
    unfold qX3_toNext_J73 at hv
    refine lv_aload_n hx hb dX3_toNext_73 rfl (lv_at hl 0 rfl) ?_
    refine lv_iload_n hx hb dX3_toNext_74 rfl (lv_at hl 1 rfl) ?_
    refine lv_iload_n hx hb dX3_toNext_75 rfl (lv_at hl 2 rfl) ?_
    obtain ⟨c26, hv⟩ := hv
    obtain ⟨c27, hv⟩ := hv
    refine k_cVv (wq_X τ ad) hx hb hml hC hLS hA hw hl.1 (mX3_exchangeCells l D τ ad sA sV _ v1 v2 c26 c27 M hM _ hv) kX3_exchangeCells ml_X3_38 rfl (gX_179 τ ad M) rfl rfl (Nat.le_of_ble_eq_true rfl) (rm_ok (by decide) (by decide)) ⟨Nat.zero_le _, Nat.zero_le _⟩ dX3_toNext_76 (fun M28 H locs hM hv hw => ?_)
    refine lv_iload_n hx hb dX3_toNext_79 rfl (lv_at hl 1 rfl) ?_
    refine r_iconst hx hb dX3_toNext_80 ?_
    refine r_iadd (z := (v1 + 1)) hx hb dX3_toNext_81 rfl ?_
    refine lv_istore_n (lv' := [(3, .int (iI (v1 + 1))), (0, .ref (ad 179)), (1, .int (iI v1)), (2, .int (iI v2))]) hx hb dX3_toNext_82 rfl hl (by decide) rfl (fun ls hl => ?_)
    refine lv_aload_n hx hb dX3_toNext_83 rfl (lv_at hl 1 rfl) ?_
    refine gf_X3_18 hx hb hC hw 179 (gX_179 τ ad M28) rfl dX3_toNext_84 ?_
    refine r_top (fun x29 e29 => ?_)
    have g29 : iR x29 := by rw [e29]; exact hM.get (by decide) _
    have hv := hv x29 e29 g29
    refine r_iconst hx hb dX3_toNext_87 ?_
    refine r_isub (z := (x29 - 1)) hx hb dX3_toNext_88 rfl ?_
    refine lv_istore (lv' := [(4, .int (iI (x29 - 1))), (3, .int (iI (v1 + 1))), (0, .ref (ad 179)), (1, .int (iI v1)), (2, .int (iI v2))]) hx hb dX3_toNext_89 hl (by decide) rfl (fun ls hl => ?_)
    obtain ⟨n34, hv⟩ := hv
    refine L91  n34 (v1 + 1) (x29 - 1) M28 _ _ _ hM hv hw (lv_sub hl [2, 1, 0] rfl)
  have J34 : ∀ (v1 : Int) (M : Mem) (H : Heap) (locs : List Loc) (ls : Array Slot), MR M → qX3_toNext_J34  Q v1 M → wS D A s.heap (WX τ ad M) H locs → lv_has ls 5 [(0, .ref (ad 179)), (1, .int (iI v1))] → W p l e (rmk 2 0 0) s m args below meth c H locs 0 0 (MQ below (gQi D (EQz (WX τ ad) MR Q) A) args s 0 0 A) (F0 m 34 ls []) := by
    intro v1 M H locs ls hM hv hw hl
    unfold qX3_toNext_J34 at hv
    refine lv_iload_n hx hb dX3_toNext_34 rfl (lv_at hl 1 rfl) ?_
    obtain ⟨c12, hv⟩ := hv
    refine r_if_ge (tgt := 40) hx hb dX3_toNext_35 (by decide) c12  (fun b13 => ?_) (fun b13 => ?_)
    · have hv := hv.1 b13
      refine lv_aload_n hx hb dX3_toNext_40 rfl (lv_at hl 0 rfl) ?_
      refine gf_X3_18 hx hb hC hw 179 (gX_179 τ ad M) rfl dX3_toNext_41 ?_
      refine r_top (fun x14 e14 => ?_)
      have g14 : iR x14 := by rw [e14]; exact hM.get (by decide) _
      have hv := hv x14 e14 g14
      refine r_iconst hx hb dX3_toNext_44 ?_
      refine r_isub (z := (x14 - 1)) hx hb dX3_toNext_45 rfl ?_
      refine lv_istore_n (lv' := [(2, .int (iI (x14 - 1))), (0, .ref (ad 179)), (1, .int (iI v1))]) hx hb dX3_toNext_46 rfl hl (by decide) rfl (fun ls hl => ?_)
      obtain ⟨n25, hv⟩ := hv
      refine L47 _ ?_ n25 v1 (x14 - 1) M _ _ _ hM hv hw (lv_sub hl [1, 2, 0] rfl)
      · intro v1 v2 M H locs ls hM hv hw hl
        exact J73 v1 v2 M _ _ _ hM hv hw (lv_sub hl [0, 1, 2] rfl)
    · have hv := hv.2 b13
      refine r_iconst hx hb dX3_toNext_38 ?_
      exact k_zret (wq_X τ ad) hx hb hr hlk hw hM (by decide) (by decide) hv dX3_toNext_39
  refine lv_aload_n hx hb dX3_toNext_0 rfl (lv_at hl 0 rfl) ?_
  refine gf_X3_18 hx hb hC hw 179 (gX_179 τ ad M) rfl dX3_toNext_1 ?_
  refine r_top (fun x1 e1 => ?_)
  have g1 : iR x1 := by rw [e1]; exact hM.get (by decide) _
  have hv := hv x1 e1 g1
  refine r_iconst hx hb dX3_toNext_4 ?_
  refine r_isub (z := (x1 - 2)) hx hb dX3_toNext_5 rfl ?_
  refine lv_istore_n (lv' := [(1, .int (iI (x1 - 2))), (0, .ref (ad 179))]) hx hb dX3_toNext_6 rfl hl (by decide) rfl (fun ls hl => ?_)
  obtain ⟨n11, hv⟩ := hv
  refine L7 _ ?_ n11 (x1 - 2) M _ _ _ hM hv hw (lv_sub hl [1, 0] rfl)
  · intro v1 M H locs ls hM hv hw hl
    exact J34 v1 M _ _ _ hM hv hw (lv_sub hl [0, 1] rfl)
set_option maxHeartbeats 4000000 in
set_option maxRecDepth 100000 in
theorem mX6_placeHearses (l : Launch) (D : va_G) (τ : Nat → ClassId) (ad : Nat → Nat) (sA sV : Nat → Nat) (sz : Nat) (k0 : Nat) (k1 : Nat) (hk0 : isS k0) (hk1 : XI 6 k1) (M : Mem) (hM : MR M) (Q : Mem → Prop) (hv : qX6_placeHearses k0 k1 M Q) : Met l yX6_placeHearses (lw_w yX6_placeHearses cX6_placeHearses 4 none) (rmk 2 0 0) (kPc D τ sA sV (WX τ ad M) sz [.ref (ad k0), .ref (ad k1)]) (gQv D (EQv (WX τ ad) MR Q) (va_A (WX τ ad M) sz)) 0 0 (va_A (WX τ ad M) sz) := by
  refine k_met (ret := none) (Qc := gQv D (EQv (WX τ ad) MR Q)) (by decide +kernel) (Nat.le_of_ble_eq_true rfl) ?_
  intro p e s m args below meth c A ls hx hb hml hr hlk hnm hC hLS hA hw hl
  have hC : cx D τ s m args RX6 := hC
  have hl : lv_has ls 4 [(0, .ref (ad k0)), (1, .ref (ad k1))] := hl
  unfold qX6_placeHearses at hv
  have L4 : ∀ (n : Nat) (v2 : Int) (v3 : Int) (M : Mem) (H : Heap) (locs : List Loc) (ls : Array Slot), MR M → qX6_placeHearses_L4 k0 k1  Q n v2 v3 M → wS D A s.heap (WX τ ad M) H locs → lv_has ls 4 [(0, .ref (ad k0)), (1, .ref (ad k1)), (2, .int (iI v2)), (3, .int (iI v3))] → W p l e (rmk 2 0 0) s m args below meth c H locs 0 0 (MQ below (gQv D (EQv (WX τ ad) MR Q) A) args s 0 0 A) (F0 m 4 ls []) := by
    intro n
    induction n with
    | zero => intro v2 v3 M H locs ls hM hv; rw [qX6_placeHearses_L4] at hv; exact hv.elim
    | succ n ih =>
      intro v2 v3 M H locs ls hM hv hw hl
      rw [qX6_placeHearses_L4] at hv
      refine lv_iload_n hx hb dX6_placeHearses_4 rfl (lv_at hl 3 rfl) ?_
      refine lv_aload_n hx hb dX6_placeHearses_5 rfl (lv_at hl 0 rfl) ?_
      refine gf_X6_30 hx hb hC hw k0 (gS_X hk0 τ ad M) rfl dX6_placeHearses_6 ?_
      refine r_top (fun x1 e1 => ?_)
      have g1 : iR x1 := by rw [e1]; exact hM.get hk0.pos _
      have hv := hv x1 e1 g1
      obtain ⟨c2, hv⟩ := hv
      refine r_icmp_ge (tgt := 38) hx hb dX6_placeHearses_9 (by decide) c2 g1 (fun b3 => ?_) (fun b3 => ?_)
      · have hv := hv.1 b3
        exact k_vret (wq_X τ ad) hx hb hr hlk hw hM hv dX6_placeHearses_38
      · have hv := hv.2 b3
        refine lv_aload_n hx hb dX6_placeHearses_12 rfl (lv_at hl 0 rfl) ?_
        refine lv_iload_n hx hb dX6_placeHearses_13 rfl (lv_at hl 3 rfl) ?_
        refine k_cVz (wq_X τ ad) hx hb hml hC hLS hA hw hl.1 (mX6_hasArrived l D τ ad sA sV _ k0 v3 hk0 c2 M hM _ hv) kX6_hasArrived ml_X6_56 rfl (gS_X hk0 τ ad M) rfl rfl (Nat.le_of_ble_eq_true rfl) (rm_ok (by decide) (by decide)) ⟨Nat.zero_le _, Nat.zero_le _⟩ dX6_placeHearses_14 (fun x4 M4 H locs g4 z4 hM hv hw => ?_)
        have hv := hv g4 z4
        refine r_if_ne (tgt := 32) hx hb dX6_placeHearses_17 (by decide) g4  (fun b5 => ?_) (fun b5 => ?_)
        · have hv := hv.1 b5
          refine r_iinc (v := (v3 + 1)) (lv' := [(3, .int (iI (v3 + 1))), (0, .ref (ad k0)), (1, .ref (ad k1)), (2, .int (iI v2))]) hx hb dX6_placeHearses_32 hl (k := 3) rfl rfl (by decide) rfl (fun ls hl => ?_)
          refine lv_goto (tgt := 4) hx hb dX6_placeHearses_35 (by decide) ?_
          exact ih v2 (v3 + 1) M4 _ _ _ hM hv hw (lv_sub hl [1, 2, 3, 0] rfl)
        · have hv := hv.2 b5
          refine lv_aload_n hx hb dX6_placeHearses_20 rfl (lv_at hl 0 rfl) ?_
          refine gf_X6_9 hx hb hC hw k0 (gS_X hk0 τ ad M4) rfl dX6_placeHearses_21 ?_
          refine lv_iload_n hx hb dX6_placeHearses_24 rfl (lv_at hl 3 rfl) ?_
          refine lv_aload_n hx hb dX6_placeHearses_25 rfl (lv_at hl 1 rfl) ?_
          refine lv_iload_n hx hb dX6_placeHearses_26 rfl (lv_at hl 2 rfl) ?_
          obtain ⟨c6, hv⟩ := hv
          obtain ⟨c7, hv⟩ := hv
          refine r_iald hx hb hC hw k1 (gI_X hk1 τ ad M4) c6 c7 (by decide) dX6_placeHearses_27 ?_
          refine r_top (fun x8 e8 => ?_)
          have g8 : iR x8 := by rw [e8]; exact hM.get hk1.pos _
          have hv := hv x8 e8 g8
          obtain ⟨c9, hv⟩ := hv
          obtain ⟨c10, hv⟩ := hv
          obtain ⟨M11, e11⟩ : ∃ M11 : Mem, M11 = up2 M4 (k0 + 1) v3 x8 := ⟨_, rfl⟩
          have hv := hv M11 e11
          refine r_iast (ws' := (WX τ ad M11)) hx hb hC hw (k0 + 1) (gI_X (isS_f0 hk0) τ ad M4) c9 c10 (by decide) (by rw [e11]; exact sI_X (isS_f0 hk0) τ ad M4 _ _) dX6_placeHearses_28 (fun H locs hw => ?_)
          have hM : MR M11 := by rw [e11]; exact hM.put (isS_f0 hk0).pos g8
          refine r_iinc (v := (v2 + 1)) (lv' := [(2, .int (iI (v2 + 1))), (0, .ref (ad k0)), (1, .ref (ad k1)), (3, .int (iI v3))]) hx hb dX6_placeHearses_29 hl (k := 2) rfl rfl (by decide) rfl (fun ls hl => ?_)
          refine r_iinc (v := (v3 + 1)) (lv' := [(3, .int (iI (v3 + 1))), (2, .int (iI (v2 + 1))), (0, .ref (ad k0)), (1, .ref (ad k1))]) hx hb dX6_placeHearses_32 hl (k := 3) rfl rfl (by decide) rfl (fun ls hl => ?_)
          refine lv_goto (tgt := 4) hx hb dX6_placeHearses_35 (by decide) ?_
          exact ih (v2 + 1) (v3 + 1) M11 _ _ _ hM hv hw (lv_sub hl [2, 3, 1, 0] rfl)
  refine r_iconst hx hb dX6_placeHearses_0 ?_
  refine lv_istore_n (lv' := [(2, .int (iI 0)), (0, .ref (ad k0)), (1, .ref (ad k1))]) hx hb dX6_placeHearses_1 rfl hl (by decide) rfl (fun ls hl => ?_)
  refine r_iconst hx hb dX6_placeHearses_2 ?_
  refine lv_istore_n (lv' := [(3, .int (iI 0)), (2, .int (iI 0)), (0, .ref (ad k0)), (1, .ref (ad k1))]) hx hb dX6_placeHearses_3 rfl hl (by decide) rfl (fun ls hl => ?_)
  obtain ⟨n12, hv⟩ := hv
  refine L4  n12 0 0 M _ _ _ hM hv hw (lv_sub hl [2, 3, 1, 0] rfl)
set_option maxHeartbeats 4000000 in
set_option maxRecDepth 100000 in
theorem mX11_order (l : Launch) (D : va_G) (τ : Nat → ClassId) (ad : Nat → Nat) (sA sV : Nat → Nat) (sz : Nat)   (M : Mem) (hM : MR M) (Q : Int → Mem → Prop) (hv : qX11_order  M Q) : Met l yX11_order (lw_w yX11_order cX11_order 5 (some .int)) (rmk 7 0 0) (kPc D τ sA sV (WX τ ad M) sz [.ref (ad 155)]) (gQi D (EQi (WX τ ad) MR Q) (va_A (WX τ ad M) sz)) 0 0 (va_A (WX τ ad M) sz) := by
  refine k_met (ret := (some .int)) (Qc := gQi D (EQi (WX τ ad) MR Q)) (by decide +kernel) (Nat.le_of_ble_eq_true rfl) ?_
  intro p e s m args below meth c A ls hx hb hml hr hlk hnm hC hLS hA hw hl
  have hC : cx D τ s m args RX11 := hC
  have hl : lv_has ls 5 [(0, .ref (ad 155))] := hl
  unfold qX11_order at hv
  have J97 : ∀ (R : Int → Int → Int → Mem → Prop), (∀ (v1 : Int) (v2 : Int) (v3 : Int) (M : Mem) (H : Heap) (locs : List Loc) (ls : Array Slot), MR M → R v1 v2 v3 M → wS D A s.heap (WX τ ad M) H locs → lv_has ls 5 [(0, .ref (ad 155)), (1, .int (iI v1)), (2, .int (iI v2)), (3, .int (iI v3))] → W p l e (rmk 7 0 0) s m args below meth c H locs 0 0 (MQ below (gQi D (EQi (WX τ ad) MR Q) A) args s 0 0 A) (F0 m 21 ls [])) → ∀ (X111 : Int → Mem → Prop), (∀ (v1 : Int) (M : Mem) (H : Heap) (locs : List Loc) (ls : Array Slot), MR M → X111 v1 M → wS D A s.heap (WX τ ad M) H locs → lv_has ls 5 [(0, .ref (ad 155)), (1, .int (iI v1))] → W p l e (rmk 7 0 0) s m args below meth c H locs 0 0 (MQ below (gQi D (EQi (WX τ ad) MR Q) A) args s 0 0 A) (F0 m 111 ls [])) → ∀ (v1 : Int) (v3 : Int) (M : Mem) (H : Heap) (locs : List Loc) (ls : Array Slot), MR M → qX11_order_J97  R X111 Q v1 v3 M → wS D A s.heap (WX τ ad M) H locs → lv_has ls 5 [(0, .ref (ad 155)), (1, .int (iI v1)), (3, .int (iI v3))] → W p l e (rmk 7 0 0) s m args below meth c H locs 0 0 (MQ below (gQi D (EQi (WX τ ad) MR Q) A) args s 0 0 A) (F0 m 97 ls []) := by
    intro R hR X111 hX111 v1 v3 M H locs ls hM hv hw hl
    unfold qX11_order_J97 at hv
    refine lv_aload_n hx hb dX11_order_97 rfl (lv_at hl 0 rfl) ?_
    refine gf_X11_80 hx hb hC hw 155 (gX_155 τ ad M) rfl dX11_order_98 ?_
    refine k_cVz (wq_X τ ad) hx hb hml hC hLS hA hw hl.1 (mX3_toNext l D τ ad sA sV _   M hM _ hv) kX3_toNext ml_X11_413 rfl (gX_179 τ ad M) rfl rfl (Nat.le_of_ble_eq_true rfl) (rm_ok (by decide) (by decide)) ⟨Nat.zero_le _, Nat.zero_le _⟩ dX11_order_101 (fun x15 M15 H locs g15 z15 hM hv hw => ?_)
    have hv := hv g15 z15
    refine lv_istore_n (lv' := [(2, .int (iI x15)), (0, .ref (ad 155)), (1, .int (iI v1)), (3, .int (iI v3))]) hx hb dX11_order_104 rfl hl (by decide) rfl (fun ls hl => ?_)
    refine r_iinc (v := (v3 + 1)) (lv' := [(3, .int (iI (v3 + 1))), (2, .int (iI x15)), (0, .ref (ad 155)), (1, .int (iI v1))]) hx hb dX11_order_105 hl (k := 3) rfl rfl (by decide) rfl (fun ls hl => ?_)
    refine lv_goto (tgt := 21) hx hb dX11_order_108 (by decide) ?_
    exact hR v1 x15 (v3 + 1) M15 _ _ _ hM hv hw (lv_sub hl [2, 3, 1, 0] rfl)
  have L21 : ∀ (X111 : Int → Mem → Prop), (∀ (v1 : Int) (M : Mem) (H : Heap) (locs : List Loc) (ls : Array Slot), MR M → X111 v1 M → wS D A s.heap (WX τ ad M) H locs → lv_has ls 5 [(0, .ref (ad 155)), (1, .int (iI v1))] → W p l e (rmk 7 0 0) s m args below meth c H locs 0 0 (MQ below (gQi D (EQi (WX τ ad) MR Q) A) args s 0 0 A) (F0 m 111 ls [])) → ∀ (n : Nat) (v1 : Int) (v2 : Int) (v3 : Int) (M : Mem) (H : Heap) (locs : List Loc) (ls : Array Slot), MR M → qX11_order_L21  X111 Q n v1 v2 v3 M → wS D A s.heap (WX τ ad M) H locs → lv_has ls 5 [(0, .ref (ad 155)), (1, .int (iI v1)), (2, .int (iI v2)), (3, .int (iI v3))] → W p l e (rmk 7 0 0) s m args below meth c H locs 0 0 (MQ below (gQi D (EQi (WX τ ad) MR Q) A) args s 0 0 A) (F0 m 21 ls []) := by
    intro X111 hX111 n
    induction n with
    | zero => intro v1 v2 v3 M H locs ls hM hv; rw [qX11_order_L21] at hv; exact hv.elim
    | succ n ih =>
      intro v1 v2 v3 M H locs ls hM hv hw hl
      rw [qX11_order_L21] at hv
      refine lv_iload_n hx hb dX11_order_21 rfl (lv_at hl 3 rfl) ?_
      refine r_sipush hx hb dX11_order_22 (by decide +kernel) ?_
      obtain ⟨c2, hv⟩ := hv
      refine r_icmp_ge (tgt := 111) hx hb dX11_order_25 (by decide) c2 (by decide) (fun b3 => ?_) (fun b3 => ?_)
      · have hv := hv.1 b3
        exact hX111 v1 M _ _ _ hM hv hw (lv_sub hl [0, 1] rfl)
      · have hv := hv.2 b3
        refine lv_iload_n hx hb dX11_order_28 rfl (lv_at hl 2 rfl) ?_
        obtain ⟨c4, hv⟩ := hv
        refine r_if_eq (tgt := 111) hx hb dX11_order_29 (by decide) c4  (fun b5 => ?_) (fun b5 => ?_)
        · have hv := hv.1 b5
          exact hX111 v1 M _ _ _ hM hv hw (lv_sub hl [0, 1] rfl)
        · have hv := hv.2 b5
          refine lv_iload_n hx hb dX11_order_32 rfl (lv_at hl 1 rfl) ?_
          refine lv_aload_n hx hb dX11_order_33 rfl (lv_at hl 0 rfl) ?_
          refine gf_X11_26 hx hb hC hw 155 (gX_155 τ ad M) rfl dX11_order_34 ?_
          refine gf_X11_191 hx hb hC hw 1 (gS_X (by decide) τ ad M) rfl dX11_order_37 ?_
          refine r_top (fun x6 e6 => ?_)
          have g6 : iR x6 := by rw [e6]; exact hM.get (by decide) _
          have hv := hv x6 e6 g6
          obtain ⟨c7, hv⟩ := hv
          refine r_icmp_ge (tgt := 111) hx hb dX11_order_40 (by decide) c7 g6 (fun b8 => ?_) (fun b8 => ?_)
          · have hv := hv.1 b8
            exact hX111 v1 M _ _ _ hM hv hw (lv_sub hl [0, 1] rfl)
          · have hv := hv.2 b8
            refine lv_aload_n hx hb dX11_order_43 rfl (lv_at hl 0 rfl) ?_
            refine gf_X11_30 hx hb hC hw 155 (gX_155 τ ad M) rfl dX11_order_44 ?_
            refine lv_aload_n hx hb dX11_order_47 rfl (lv_at hl 0 rfl) ?_
            refine gf_X11_26 hx hb hC hw 155 (gX_155 τ ad M) rfl dX11_order_48 ?_
            refine k_cVv (wq_X τ ad) hx hb hml hC hLS hA hw hl.1 (mX6_copyFrom l D τ ad sA sV _ 8 1 (by decide) (by decide) M hM _ hv) kX6_copyFrom ml_X11_153 rfl (gS_X (by decide) τ ad M) rfl rfl (Nat.le_of_ble_eq_true rfl) (rm_ok (by decide) (by decide)) ⟨Nat.zero_le _, Nat.zero_le _⟩ dX11_order_51 (fun M9 H locs hM hv hw => ?_)
            refine lv_aload_n hx hb dX11_order_54 rfl (lv_at hl 0 rfl) ?_
            refine gf_X11_30 hx hb hC hw 155 (gX_155 τ ad M9) rfl dX11_order_55 ?_
            refine lv_aload_n hx hb dX11_order_58 rfl (lv_at hl 0 rfl) ?_
            refine gf_X11_80 hx hb hC hw 155 (gX_155 τ ad M9) rfl dX11_order_59 ?_
            refine gf_X11_404 hx hb hC hw 179 (gX_179 τ ad M9) rfl dX11_order_62 ?_
            refine k_cVv (wq_X τ ad) hx hb hml hC hLS hA hw hl.1 (mX6_placeHearses l D τ ad sA sV _ 8 180 (by decide) aX_180 M9 hM _ hv) kX6_placeHearses ml_X11_406 rfl (gS_X (by decide) τ ad M9) rfl rfl (Nat.le_of_ble_eq_true rfl) (rm_ok (by decide) (by decide)) ⟨Nat.zero_le _, Nat.zero_le _⟩ dX11_order_65 (fun M10 H locs hM hv hw => ?_)
            refine lv_aload_n hx hb dX11_order_68 rfl (lv_at hl 0 rfl) ?_
            refine lv_aload_n hx hb dX11_order_69 rfl (lv_at hl 0 rfl) ?_
            refine gf_X11_105 hx hb hC hw 155 (gX_155 τ ad M10) rfl dX11_order_70 ?_
            obtain ⟨c11, hv⟩ := hv
            refine k_cVi (wq_X τ ad) hx hb hml hC hLS hA hw hl.1 (mX11_rightOnesOfTrial l D τ ad sA sV _ (M10 155 16).toNat c11 M10 hM _ hv) kX11_rightOnesOfTrial ml_X11_382 rfl (gX_155 τ ad M10) rfl rfl (Nat.le_of_ble_eq_true rfl) (rm_ok (by decide) (by decide)) ⟨Nat.zero_le _, Nat.zero_le _⟩ dX11_order_73 (fun x12 M12 H locs g12 hM hv hw => ?_)
            have hv := hv g12
            refine k_cSi (wq_X τ ad) hx hb hml hC hLS hA hw hl.1 (mJ6_bitCount_0f7a4X l D τ ad sA sV _ x12 g12 M12 hM _ hv) kJ6_bitCount_0f7a4 ml_X11_389 rfl rfl (Nat.le_of_ble_eq_true rfl) (rm_ok (by decide) (by decide)) ⟨Nat.zero_le _, Nat.zero_le _⟩ dX11_order_76 (fun x13 M13 H locs g13 hM hv hw => ?_)
            have hv := hv g13
            refine lv_istore (lv' := [(4, .int (iI x13)), (0, .ref (ad 155)), (1, .int (iI v1)), (2, .int (iI v2)), (3, .int (iI v3))]) hx hb dX11_order_79 hl (by decide) rfl (fun ls hl => ?_)
            refine lv_iload hx hb dX11_order_81 (lv_at hl 0 rfl) ?_
            refine lv_iload_n hx hb dX11_order_83 rfl (lv_at hl 2 rfl) ?_
            refine r_icmp_le (tgt := 97) hx hb dX11_order_84 (by decide) g13 c7 (fun b14 => ?_) (fun b14 => ?_)
            · have hv := hv.1 b14
              exact J97 _ ih _ hX111 v1 v3 M13 _ _ _ hM hv hw (lv_sub hl [1, 2, 4] rfl)
            · have hv := hv.2 b14
              refine lv_iload hx hb dX11_order_87 (lv_at hl 0 rfl) ?_
              refine lv_istore_n (lv' := [(1, .int (iI x13)), (4, .int (iI x13)), (0, .ref (ad 155)), (2, .int (iI v2)), (3, .int (iI v3))]) hx hb dX11_order_89 rfl hl (by decide) rfl (fun ls hl => ?_)
              refine lv_aload_n hx hb dX11_order_90 rfl (lv_at hl 2 rfl) ?_
              refine gf_X11_80 hx hb hC hw 155 (gX_155 τ ad M13) rfl dX11_order_91 ?_
              refine k_cVv (wq_X τ ad) hx hb hml hC hLS hA hw hl.1 (mX3_markBest l D τ ad sA sV _   M13 hM _ hv) kX3_markBest ml_X11_410 rfl (gX_179 τ ad M13) rfl rfl (Nat.le_of_ble_eq_true rfl) (rm_ok (by decide) (by decide)) ⟨Nat.zero_le _, Nat.zero_le _⟩ dX11_order_94 (fun M16 H locs hM hv hw => ?_)
              exact J97 _ ih _ hX111 x13 v3 M16 _ _ _ hM hv hw (lv_sub hl [2, 0, 4] rfl)
  have L120 : ∀ (n : Nat) (v1 : Int) (v3 : Int) (M : Mem) (H : Heap) (locs : List Loc) (ls : Array Slot), MR M → qX11_order_L120   Q n v1 v3 M → wS D A s.heap (WX τ ad M) H locs → lv_has ls 5 [(0, .ref (ad 155)), (1, .int (iI v1)), (3, .int (iI v3))] → W p l e (rmk 7 0 0) s m args below meth c H locs 0 0 (MQ below (gQi D (EQi (WX τ ad) MR Q) A) args s 0 0 A) (F0 m 120 ls []) := by
    intro n
    induction n with
    | zero => intro v1 v3 M H locs ls hM hv; rw [qX11_order_L120] at hv; exact hv.elim
    | succ n ih =>
      intro v1 v3 M H locs ls hM hv hw hl
      rw [qX11_order_L120] at hv
      refine lv_iload_n hx hb dX11_order_120 rfl (lv_at hl 2 rfl) ?_
      refine lv_aload_n hx hb dX11_order_121 rfl (lv_at hl 0 rfl) ?_
      refine gf_X11_80 hx hb hC hw 155 (gX_155 τ ad M) rfl dX11_order_122 ?_
      refine gf_X11_416 hx hb hC hw 179 (gX_179 τ ad M) rfl dX11_order_125 ?_
      refine r_top (fun x19 e19 => ?_)
      have g19 : iR x19 := by rw [e19]; exact hM.get (by decide) _
      have hv := hv x19 e19 g19
      obtain ⟨c20, hv⟩ := hv
      refine r_icmp_ge (tgt := 154) hx hb dX11_order_128 (by decide) c20 g19 (fun b21 => ?_) (fun b21 => ?_)
      · have hv := hv.1 b21
        refine lv_iload_n hx hb dX11_order_154 rfl (lv_at hl 1 rfl) ?_
        obtain ⟨c22, hv⟩ := hv
        exact k_iret (wq_X τ ad) hx hb hr hlk hw hM c22 hv dX11_order_155
      · have hv := hv.2 b21
        refine lv_aload_n hx hb dX11_order_131 rfl (lv_at hl 0 rfl) ?_
        refine gf_X11_66 hx hb hC hw 155 (gX_155 τ ad M) rfl dX11_order_132 ?_
        refine lv_aload_n hx hb dX11_order_135 rfl (lv_at hl 0 rfl) ?_
        refine gf_X11_80 hx hb hC hw 155 (gX_155 τ ad M) rfl dX11_order_136 ?_
        refine gf_X11_417 hx hb hC hw 179 (gX_179 τ ad M) rfl dX11_order_139 ?_
        refine lv_iload_n hx hb dX11_order_142 rfl (lv_at hl 2 rfl) ?_
        obtain ⟨c23, hv⟩ := hv
        obtain ⟨c24, hv⟩ := hv
        refine r_iald hx hb hC hw 181 (gI_X aX_181 τ ad M) c23 c24 (by decide) dX11_order_143 ?_
        refine r_top (fun x25 e25 => ?_)
        have g25 : iR x25 := by rw [e25]; exact hM.get aX_181.pos _
        have hv := hv x25 e25 g25
        refine r_i2l hx hb dX11_order_144 g25 ?_
        refine k_cVv (wq_X τ ad) hx hb hml hC hLS hA hw hl.1 (mX4_add l D τ ad sA sV _ x25 (iR_lR g25) M hM _ hv) kX4_add ml_X11_356 rfl (gX_167 τ ad M) rfl rfl (Nat.le_of_ble_eq_true rfl) (rm_ok (by decide) (by decide)) ⟨Nat.zero_le _, Nat.zero_le _⟩ dX11_order_145 (fun M26 H locs hM hv hw => ?_)
        refine r_iinc (v := (v3 + 1)) (lv' := [(3, .int (iI (v3 + 1))), (0, .ref (ad 155)), (1, .int (iI v1))]) hx hb dX11_order_148 hl (k := 2) rfl rfl (by decide) rfl (fun ls hl => ?_)
        refine lv_goto (tgt := 120) hx hb dX11_order_151 (by decide) ?_
        exact ih v1 (v3 + 1) M26 _ _ _ hM hv hw (lv_sub hl [1, 2, 0] rfl)
  have J111 : ∀ (v1 : Int) (M : Mem) (H : Heap) (locs : List Loc) (ls : Array Slot), MR M → qX11_order_J111  Q v1 M → wS D A s.heap (WX τ ad M) H locs → lv_has ls 5 [(0, .ref (ad 155)), (1, .int (iI v1))] → W p l e (rmk 7 0 0) s m args below meth c H locs 0 0 (MQ below (gQi D (EQi (WX τ ad) MR Q) A) args s 0 0 A) (F0 m 111 ls []) := by
    intro v1 M H locs ls hM hv hw hl
    unfold qX11_order_J111 at hv
    refine lv_aload_n hx hb dX11_order_111 rfl (lv_at hl 0 rfl) ?_
    refine gf_X11_66 hx hb hC hw 155 (gX_155 τ ad M) rfl dX11_order_112 ?_
    refine k_cVv (wq_X τ ad) hx hb hml hC hLS hA hw hl.1 (mX4_clear l D τ ad sA sV _   M hM _ hv) kX4_clear ml_X11_349 rfl (gX_167 τ ad M) rfl rfl (Nat.le_of_ble_eq_true rfl) (rm_ok (by decide) (by decide)) ⟨Nat.zero_le _, Nat.zero_le _⟩ dX11_order_115 (fun M18 H locs hM hv hw => ?_)
    refine r_iconst hx hb dX11_order_118 ?_
    refine lv_istore_n (lv' := [(3, .int (iI 0)), (0, .ref (ad 155)), (1, .int (iI v1))]) hx hb dX11_order_119 rfl hl (by decide) rfl (fun ls hl => ?_)
    obtain ⟨n27, hv⟩ := hv
    refine L120  n27 v1 0 M18 _ _ _ hM hv hw (lv_sub hl [1, 2, 0] rfl)
  refine lv_aload_n hx hb dX11_order_0 rfl (lv_at hl 0 rfl) ?_
  refine gf_X11_80 hx hb hC hw 155 (gX_155 τ ad M) rfl dX11_order_1 ?_
  refine lv_aload_n hx hb dX11_order_4 rfl (lv_at hl 0 rfl) ?_
  refine gf_X11_26 hx hb hC hw 155 (gX_155 τ ad M) rfl dX11_order_5 ?_
  refine lv_aload_n hx hb dX11_order_8 rfl (lv_at hl 0 rfl) ?_
  refine gf_X11_19 hx hb hC hw 155 (gX_155 τ ad M) rfl dX11_order_9 ?_
  refine k_cVv (wq_X τ ad) hx hb hml hC hLS hA hw hl.1 (mX3_begin l D τ ad sA sV _ 1 (by decide) M hM _ hv) kX3_begin ml_X11_400 rfl (gX_179 τ ad M) rfl rfl (Nat.le_of_ble_eq_true rfl) (rm_ok (by decide) (by decide)) ⟨Nat.zero_le _, Nat.zero_le _⟩ dX11_order_12 (fun M1 H locs hM hv hw => ?_)
  refine r_iconst hx hb dX11_order_15 ?_
  refine lv_istore_n (lv' := [(1, .int (iI (-1))), (0, .ref (ad 155))]) hx hb dX11_order_16 rfl hl (by decide) rfl (fun ls hl => ?_)
  refine r_iconst hx hb dX11_order_17 ?_
  refine lv_istore_n (lv' := [(2, .int (iI 1)), (1, .int (iI (-1))), (0, .ref (ad 155))]) hx hb dX11_order_18 rfl hl (by decide) rfl (fun ls hl => ?_)
  refine r_iconst hx hb dX11_order_19 ?_
  refine lv_istore_n (lv' := [(3, .int (iI 0)), (2, .int (iI 1)), (1, .int (iI (-1))), (0, .ref (ad 155))]) hx hb dX11_order_20 rfl hl (by decide) rfl (fun ls hl => ?_)
  obtain ⟨n17, hv⟩ := hv
  refine L21 _ ?_ n17 (-1) 1 0 M1 _ _ _ hM hv hw (lv_sub hl [3, 2, 1, 0] rfl)
  · intro v1 M H locs ls hM hv hw hl
    exact J111 v1 M _ _ _ hM hv hw (lv_sub hl [0, 1] rfl)
set_option maxHeartbeats 4000000 in
set_option maxRecDepth 100000 in
theorem mX11_stands (l : Launch) (D : va_G) (τ : Nat → ClassId) (ad : Nat → Nat) (sA sV : Nat → Nat) (sz : Nat) (p1 : Int) (hp1 : iR p1) (M : Mem) (hM : MR M) (Q : Int → Mem → Prop) (hv : qX11_stands p1 M Q) : Met l yX11_stands (lw_w yX11_stands cX11_stands 5 (some .int)) (rmk 6 0 0) (kPc D τ sA sV (WX τ ad M) sz [.ref (ad 155), .int (iI p1)]) (gQi D (EQi (WX τ ad) MR Q) (va_A (WX τ ad M) sz)) 0 0 (va_A (WX τ ad M) sz) := by
  refine k_met (ret := (some .int)) (Qc := gQi D (EQi (WX τ ad) MR Q)) (by decide +kernel) (Nat.le_of_ble_eq_true rfl) ?_
  intro p e s m args below meth c A ls hx hb hml hr hlk hnm hC hLS hA hw hl
  have hC : cx D τ s m args RX11 := hC
  have hl : lv_has ls 5 [(0, .ref (ad 155)), (1, .int (iI p1))] := hl
  unfold qX11_stands at hv
  have L42 : ∀ (X117 : Int → Int → Mem → Prop), (∀ (v2 : Int) (v3 : Int) (M : Mem) (H : Heap) (locs : List Loc) (ls : Array Slot), MR M → X117 v2 v3 M → wS D A s.heap (WX τ ad M) H locs → lv_has ls 5 [(0, .ref (ad 155)), (2, .int (iI v2)), (3, .int (iI v3))] → W p l e (rmk 6 0 0) s m args below meth c H locs 0 0 (MQ below (gQi D (EQi (WX τ ad) MR Q) A) args s 0 0 A) (F0 m 117 ls [])) → ∀ (n : Nat) (v2 : Int) (v3 : Int) (v4 : Int) (M : Mem) (H : Heap) (locs : List Loc) (ls : Array Slot), MR M → qX11_stands_L42 p1 X117 Q n v2 v3 v4 M → wS D A s.heap (WX τ ad M) H locs → lv_has ls 5 [(0, .ref (ad 155)), (1, .int (iI p1)), (2, .int (iI v2)), (3, .int (iI v3)), (4, .int (iI v4))] → W p l e (rmk 6 0 0) s m args below meth c H locs 0 0 (MQ below (gQi D (EQi (WX τ ad) MR Q) A) args s 0 0 A) (F0 m 42 ls []) := by
    intro X117 hX117 n
    induction n with
    | zero => intro v2 v3 v4 M H locs ls hM hv; rw [qX11_stands_L42] at hv; exact hv.elim
    | succ n ih =>
      intro v2 v3 v4 M H locs ls hM hv hw hl
      rw [qX11_stands_L42] at hv
      refine lv_iload hx hb dX11_stands_42 (lv_at hl 4 rfl) ?_
      obtain ⟨c6, hv⟩ := hv
      refine r_if_lt (tgt := 117) hx hb dX11_stands_44 (by decide) c6  (fun b7 => ?_) (fun b7 => ?_)
      · have hv := hv.1 b7
        exact hX117 v2 v3 M _ _ _ hM hv hw (lv_sub hl [0, 2, 3] rfl)
      · have hv := hv.2 b7
        refine lv_aload_n hx hb dX11_stands_47 rfl (lv_at hl 0 rfl) ?_
        refine gf_X11_30 hx hb hC hw 155 (gX_155 τ ad M) rfl dX11_stands_48 ?_
        refine lv_aload_n hx hb dX11_stands_51 rfl (lv_at hl 0 rfl) ?_
        refine gf_X11_26 hx hb hC hw 155 (gX_155 τ ad M) rfl dX11_stands_52 ?_
        refine k_cVv (wq_X τ ad) hx hb hml hC hLS hA hw hl.1 (mX6_copyFrom l D τ ad sA sV _ 8 1 (by decide) (by decide) M hM _ hv) kX6_copyFrom ml_X11_153 rfl (gS_X (by decide) τ ad M) rfl rfl (Nat.le_of_ble_eq_true rfl) (rm_ok (by decide) (by decide)) ⟨Nat.zero_le _, Nat.zero_le _⟩ dX11_stands_55 (fun M8 H locs hM hv hw => ?_)
        refine lv_aload_n hx hb dX11_stands_58 rfl (lv_at hl 0 rfl) ?_
        refine gf_X11_30 hx hb hC hw 155 (gX_155 τ ad M8) rfl dX11_stands_59 ?_
        refine gf_X11_270 hx hb hC hw 8 (gS_X (by decide) τ ad M8) rfl dX11_stands_62 ?_
        refine lv_iload_n hx hb dX11_stands_65 rfl (lv_at hl 1 rfl) ?_
        refine lv_iload hx hb dX11_stands_66 (lv_at hl 4 rfl) ?_
        obtain ⟨c9, hv⟩ := hv
        obtain ⟨c10, hv⟩ := hv
        obtain ⟨M11, e11⟩ : ∃ M11 : Mem, M11 = up2 M8 11 p1 v4 := ⟨_, rfl⟩
        have hv := hv M11 e11
        refine r_iast (ws' := (WX τ ad M11)) hx hb hC hw 11 (gI_X (isS_f2 (by decide)) τ ad M8) c9 c10 (by decide) (by rw [e11]; exact sI_X (isS_f2 (by decide)) τ ad M8 _ _) dX11_stands_68 (fun H locs hw => ?_)
        have hM : MR M11 := by rw [e11]; exact hM.put (isS_f2 (by decide)).pos c6
        refine lv_aload_n hx hb dX11_stands_69 rfl (lv_at hl 0 rfl) ?_
        refine gf_X11_30 hx hb hC hw 155 (gX_155 τ ad M11) rfl dX11_stands_70 ?_
        refine gf_X11_240 hx hb hC hw 8 (gS_X (by decide) τ ad M11) rfl dX11_stands_73 ?_
        refine lv_iload_n hx hb dX11_stands_76 rfl (lv_at hl 1 rfl) ?_
        refine r_iconst hx hb dX11_stands_77 ?_
        obtain ⟨M12, e12⟩ : ∃ M12 : Mem, M12 = up2 M11 13 p1 (-1) := ⟨_, rfl⟩
        have hv := hv M12 e12
        refine r_iast (ws' := (WX τ ad M12)) hx hb hC hw 13 (gI_X (isS_f4 (by decide)) τ ad M11) c9 c10 (by decide) (by rw [e12]; exact sI_X (isS_f4 (by decide)) τ ad M11 _ _) dX11_stands_78 (fun H locs hw => ?_)
        have hM : MR M12 := by rw [e12]; exact hM.put (isS_f4 (by decide)).pos (by decide)
        refine lv_aload_n hx hb dX11_stands_79 rfl (lv_at hl 0 rfl) ?_
        refine gf_X11_44 hx hb hC hw 155 (gX_155 τ ad M12) rfl dX11_stands_80 ?_
        refine lv_aload_n hx hb dX11_stands_83 rfl (lv_at hl 0 rfl) ?_
        refine gf_X11_30 hx hb hC hw 155 (gX_155 τ ad M12) rfl dX11_stands_84 ?_
        refine lv_aload_n hx hb dX11_stands_87 rfl (lv_at hl 0 rfl) ?_
        refine gf_X11_105 hx hb hC hw 155 (gX_155 τ ad M12) rfl dX11_stands_88 ?_
        obtain ⟨c13, hv⟩ := hv
        refine k_cVv (wq_X τ ad) hx hb hml hC hLS hA hw hl.1 (mX10_toEnd l D τ ad sA sV _ 8 (M12 155 16).toNat (by decide) c13 M12 hM _ hv) kX10_toEnd ml_X11_394 rfl (gX_160 τ ad M12) rfl rfl (Nat.le_of_ble_eq_true rfl) (rm_ok (by decide) (by decide)) ⟨Nat.zero_le _, Nat.zero_le _⟩ dX11_stands_91 (fun M14 H locs hM hv hw => ?_)
        refine lv_aload_n hx hb dX11_stands_94 rfl (lv_at hl 0 rfl) ?_
        refine gf_X11_30 hx hb hC hw 155 (gX_155 τ ad M14) rfl dX11_stands_95 ?_
        refine lv_iload_n hx hb dX11_stands_98 rfl (lv_at hl 1 rfl) ?_
        refine k_cVz (wq_X τ ad) hx hb hml hC hLS hA hw hl.1 (mX6_isRight l D τ ad sA sV _ 8 p1 (by decide) hp1 M14 hM _ hv) kX6_isRight ml_X11_420 rfl (gS_X (by decide) τ ad M14) rfl rfl (Nat.le_of_ble_eq_true rfl) (rm_ok (by decide) (by decide)) ⟨Nat.zero_le _, Nat.zero_le _⟩ dX11_stands_99 (fun x15 M15 H locs g15 z15 hM hv hw => ?_)
        have hv := hv g15 z15
        refine r_if_eq (tgt := 111) hx hb dX11_stands_102 (by decide) g15  (fun b16 => ?_) (fun b16 => ?_)
        · have hv := hv.1 b16
          refine r_iinc (v := (v4 + (-1))) (lv' := [(4, .int (iI (v4 + (-1)))), (0, .ref (ad 155)), (1, .int (iI p1)), (2, .int (iI v2)), (3, .int (iI v3))]) hx hb dX11_stands_111 hl (k := 4) rfl rfl (by decide) rfl (fun ls hl => ?_)
          refine lv_goto (tgt := 42) hx hb dX11_stands_114 (by decide) ?_
          exact ih v2 v3 (v4 + (-1)) M15 _ _ _ hM hv hw (lv_sub hl [1, 2, 3, 4, 0] rfl)
        · have hv := hv.2 b16
          refine lv_iload hx hb dX11_stands_105 (lv_at hl 4 rfl) ?_
          refine lv_istore_n (lv' := [(2, .int (iI v4)), (0, .ref (ad 155)), (1, .int (iI p1)), (3, .int (iI v3)), (4, .int (iI v4))]) hx hb dX11_stands_107 rfl hl (by decide) rfl (fun ls hl => ?_)
          refine r_iinc (v := (v3 + 1)) (lv' := [(3, .int (iI (v3 + 1))), (2, .int (iI v4)), (0, .ref (ad 155)), (1, .int (iI p1)), (4, .int (iI v4))]) hx hb dX11_stands_108 hl (k := 3) rfl rfl (by decide) rfl (fun ls hl => ?_)
          refine r_iinc (v := (v4 + (-1))) (lv' := [(4, .int (iI (v4 + (-1)))), (3, .int (iI (v3 + 1))), (2, .int (iI v4)), (0, .ref (ad 155)), (1, .int (iI p1))]) hx hb dX11_stands_111 hl (k := 4) rfl rfl (by decide) rfl (fun ls hl => ?_)
          refine lv_goto (tgt := 42) hx hb dX11_stands_114 (by decide) ?_
          exact ih v4 (v3 + 1) (v4 + (-1)) M15 _ _ _ hM hv hw (lv_sub hl [3, 4, 2, 1, 0] rfl)
  refine lv_aload_n hx hb dX11_stands_0 rfl (lv_at hl 0 rfl) ?_
  refine gf_X11_26 hx hb hC hw 155 (gX_155 τ ad M) rfl dX11_stands_1 ?_
  refine lv_iload_n hx hb dX11_stands_4 rfl (lv_at hl 1 rfl) ?_
  refine k_cVz (wq_X τ ad) hx hb hml hC hLS hA hw hl.1 (mX6_isMourner l D τ ad sA sV _ 1 p1 (by decide) hp1 M hM _ hv) kX6_isMourner ml_X11_265 rfl (gS_X (by decide) τ ad M) rfl rfl (Nat.le_of_ble_eq_true rfl) (rm_ok (by decide) (by decide)) ⟨Nat.zero_le _, Nat.zero_le _⟩ dX11_stands_5 (fun x1 M1 H locs g1 z1 hM hv hw => ?_)
  have hv := hv g1 z1
  refine r_if_ne (tgt := 13) hx hb dX11_stands_8 (by decide) g1  (fun b2 => ?_) (fun b2 => ?_)
  · have hv := hv.1 b2
    refine lv_aload_n hx hb dX11_stands_13 rfl (lv_at hl 0 rfl) ?_
    refine gf_X11_26 hx hb hC hw 155 (gX_155 τ ad M1) rfl dX11_stands_14 ?_
    refine lv_iload_n hx hb dX11_stands_17 rfl (lv_at hl 1 rfl) ?_
    refine k_cVz (wq_X τ ad) hx hb hml hC hLS hA hw hl.1 (mX6_hasEnded l D τ ad sA sV _ 1 p1 (by decide) hp1 M1 hM _ hv) kX6_hasEnded ml_X11_278 rfl (gS_X (by decide) τ ad M1) rfl rfl (Nat.le_of_ble_eq_true rfl) (rm_ok (by decide) (by decide)) ⟨Nat.zero_le _, Nat.zero_le _⟩ dX11_stands_18 (fun x3 M3 H locs g3 z3 hM hv hw => ?_)
    have hv := hv g3 z3
    refine r_if_eq (tgt := 27) hx hb dX11_stands_21 (by decide) g3  (fun b4 => ?_) (fun b4 => ?_)
    · have hv := hv.1 b4
      refine r_iconst hx hb dX11_stands_27 ?_
      refine lv_istore_n (lv' := [(2, .int (iI (-1))), (0, .ref (ad 155)), (1, .int (iI p1))]) hx hb dX11_stands_28 rfl hl (by decide) rfl (fun ls hl => ?_)
      refine r_iconst hx hb dX11_stands_29 ?_
      refine lv_istore_n (lv' := [(3, .int (iI 0)), (2, .int (iI (-1))), (0, .ref (ad 155)), (1, .int (iI p1))]) hx hb dX11_stands_30 rfl hl (by decide) rfl (fun ls hl => ?_)
      refine lv_aload_n hx hb dX11_stands_31 rfl (lv_at hl 2 rfl) ?_
      refine gf_X11_19 hx hb hC hw 155 (gX_155 τ ad M3) rfl dX11_stands_32 ?_
      refine k_cVi (wq_X τ ad) hx hb hml hC hLS hA hw hl.1 (mX8_gate l D τ ad sA sV _   M3 hM _ hv) kX8_gate ml_X11_207 rfl (gX_158 τ ad M3) rfl rfl (Nat.le_of_ble_eq_true rfl) (rm_ok (by decide) (by decide)) ⟨Nat.zero_le _, Nat.zero_le _⟩ dX11_stands_35 (fun x5 M5 H locs g5 hM hv hw => ?_)
      have hv := hv g5
      refine r_iconst hx hb dX11_stands_38 ?_
      refine r_isub (z := (x5 - 1)) hx hb dX11_stands_39 rfl ?_
      refine lv_istore (lv' := [(4, .int (iI (x5 - 1))), (3, .int (iI 0)), (2, .int (iI (-1))), (0, .ref (ad 155)), (1, .int (iI p1))]) hx hb dX11_stands_40 hl (by decide) rfl (fun ls hl => ?_)
      obtain ⟨n17, hv⟩ := hv
      refine L42 _ ?_ n17 (-1) 0 (x5 - 1) M5 _ _ _ hM hv hw (lv_sub hl [3, 4, 2, 1, 0] rfl)
      · intro v2 v3 M H locs ls hM hv hw hl
        refine lv_iload_n hx hb dX11_stands_117 rfl (lv_at hl 2 rfl) ?_
        obtain ⟨c18, hv⟩ := hv
        refine r_if_ne (tgt := 124) hx hb dX11_stands_118 (by decide) c18  (fun b19 => ?_) (fun b19 => ?_)
        · have hv := hv.1 b19
          refine lv_aload_n hx hb dX11_stands_124 rfl (lv_at hl 0 rfl) ?_
          refine gf_X11_66 hx hb hC hw 155 (gX_155 τ ad M) rfl dX11_stands_125 ?_
          refine lv_iload_n hx hb dX11_stands_128 rfl (lv_at hl 2 rfl) ?_
          refine r_i2l hx hb dX11_stands_129 c18 ?_
          refine k_cVv (wq_X τ ad) hx hb hml hC hLS hA hw hl.1 (mX4_tellOne l D τ ad sA sV _ v3 (iR_lR c18) M hM _ hv) kX4_tellOne ml_X11_366 rfl (gX_167 τ ad M) rfl rfl (Nat.le_of_ble_eq_true rfl) (rm_ok (by decide) (by decide)) ⟨Nat.zero_le _, Nat.zero_le _⟩ dX11_stands_130 (fun M20 H locs hM hv hw => ?_)
          refine lv_iload_n hx hb dX11_stands_133 rfl (lv_at hl 1 rfl) ?_
          obtain ⟨c21, hv⟩ := hv
          exact k_iret (wq_X τ ad) hx hb hr hlk hw hM c21 hv dX11_stands_134
        · have hv := hv.2 b19
          refine r_bipush hx hb dX11_stands_121 (by decide +kernel) ?_
          exact k_iret (wq_X τ ad) hx hb hr hlk hw hM (by decide) hv dX11_stands_123
    · have hv := hv.2 b4
      refine r_bipush hx hb dX11_stands_24 (by decide +kernel) ?_
      exact k_iret (wq_X τ ad) hx hb hr hlk hw hM (by decide) hv dX11_stands_26
  · have hv := hv.2 b2
    refine r_iconst hx hb dX11_stands_11 ?_
    exact k_iret (wq_X τ ad) hx hb hr hlk hw hM (by decide) hv dX11_stands_12
set_option maxHeartbeats 4000000 in
set_option maxRecDepth 100000 in
theorem mX11_isTurned (l : Launch) (D : va_G) (τ : Nat → ClassId) (ad : Nat → Nat) (sA sV : Nat → Nat) (sz : Nat) (p1 : Int) (hp1 : iR p1) (M : Mem) (hM : MR M) (Q : Int → Mem → Prop) (hv : qX11_isTurned p1 M Q) : Met l yX11_isTurned (lw_w yX11_isTurned cX11_isTurned 3 (some .boolean)) (rmk 3 0 0) (kPc D τ sA sV (WX τ ad M) sz [.ref (ad 155), .int (iI p1)]) (gQi D (EQz (WX τ ad) MR Q) (va_A (WX τ ad M) sz)) 0 0 (va_A (WX τ ad M) sz) := by
  refine k_met (ret := (some .boolean)) (Qc := gQi D (EQz (WX τ ad) MR Q)) (by decide +kernel) (Nat.le_of_ble_eq_true rfl) ?_
  intro p e s m args below meth c A ls hx hb hml hr hlk hnm hC hLS hA hw hl
  have hC : cx D τ s m args RX11 := hC
  have hl : lv_has ls 3 [(0, .ref (ad 155)), (1, .int (iI p1))] := hl
  unfold qX11_isTurned at hv
  have J37 : ∀ (t0 : Int) (M : Mem) (H : Heap) (locs : List Loc) (ls : Array Slot), MR M → qX11_isTurned_J37 p1 Q t0 M → wS D A s.heap (WX τ ad M) H locs → lv_has ls 3 [(0, .ref (ad 155)), (1, .int (iI p1))] → W p l e (rmk 3 0 0) s m args below meth c H locs 0 0 (MQ below (gQi D (EQz (WX τ ad) MR Q) A) args s 0 0 A) (F0 m 37 ls [.int (iI t0)]) := by
    intro t0 M H locs ls hM hv hw hl
    unfold qX11_isTurned_J37 at hv
    refine lv_istore_n (lv' := [(2, .int (iI t0)), (0, .ref (ad 155)), (1, .int (iI p1))]) hx hb dX11_isTurned_37 rfl hl (by decide) rfl (fun ls hl => ?_)
    refine lv_iload_n hx hb dX11_isTurned_38 rfl (lv_at hl 0 rfl) ?_
    obtain ⟨c3, hv⟩ := hv
    refine r_if_ne (tgt := 56) hx hb dX11_isTurned_39 (by decide) c3  (fun b4 => ?_) (fun b4 => ?_)
    · have hv := hv.1 b4
      refine r_iconst hx hb dX11_isTurned_56 ?_
      refine lv_goto (tgt := 61) hx hb dX11_isTurned_57 (by decide) ?_
      exact k_zret (wq_X τ ad) hx hb hr hlk hw hM (by decide) (by decide) hv dX11_isTurned_61
    · have hv := hv.2 b4
      refine lv_aload_n hx hb dX11_isTurned_42 rfl (lv_at hl 1 rfl) ?_
      refine gf_X11_30 hx hb hC hw 155 (gX_155 τ ad M) rfl dX11_isTurned_43 ?_
      refine lv_iload_n hx hb dX11_isTurned_46 rfl (lv_at hl 2 rfl) ?_
      refine k_cVi (wq_X τ ad) hx hb hml hC hLS hA hw hl.1 (mX6_turn l D τ ad sA sV _ 8 p1 (by decide) hp1 M hM _ hv) kX6_turn ml_X11_308 rfl (gS_X (by decide) τ ad M) rfl rfl (Nat.le_of_ble_eq_true rfl) (rm_ok (by decide) (by decide)) ⟨Nat.zero_le _, Nat.zero_le _⟩ dX11_isTurned_47 (fun x5 M5 H locs g5 hM hv hw => ?_)
      have hv := hv g5
      refine k_cSz (wq_X τ ad) hx hb hml hC hLS hA hw hl.1 (mX11_isDone l D τ ad sA sV _ x5 g5 M5 hM _ hv) kX11_isDone ml_X11_318 rfl rfl (Nat.le_of_ble_eq_true rfl) (rm_ok (by decide) (by decide)) ⟨Nat.zero_le _, Nat.zero_le _⟩ dX11_isTurned_50 (fun x6 M6 H locs g6 z6 hM hv hw => ?_)
      have hv := hv g6 z6
      refine r_if_eq (tgt := 60) hx hb dX11_isTurned_53 (by decide) g6  (fun b7 => ?_) (fun b7 => ?_)
      · have hv := hv.1 b7
        refine r_iconst hx hb dX11_isTurned_60 ?_
        exact k_zret (wq_X τ ad) hx hb hr hlk hw hM (by decide) (by decide) hv dX11_isTurned_61
      · have hv := hv.2 b7
        refine r_iconst hx hb dX11_isTurned_56 ?_
        refine lv_goto (tgt := 61) hx hb dX11_isTurned_57 (by decide) ?_
        exact k_zret (wq_X τ ad) hx hb hr hlk hw hM (by decide) (by decide) hv dX11_isTurned_61
  have J36 : ∀  (M : Mem) (H : Heap) (locs : List Loc) (ls : Array Slot), MR M → qX11_isTurned_J36 p1 Q  M → wS D A s.heap (WX τ ad M) H locs → lv_has ls 3 [(0, .ref (ad 155)), (1, .int (iI p1))] → W p l e (rmk 3 0 0) s m args below meth c H locs 0 0 (MQ below (gQi D (EQz (WX τ ad) MR Q) A) args s 0 0 A) (F0 m 36 ls []) := by
    intro  M H locs ls hM hv hw hl
    unfold qX11_isTurned_J36 at hv
    refine r_iconst hx hb dX11_isTurned_36 ?_
    exact J37 0 M _ _ _ hM hv hw (lv_sub hl [0, 1] rfl)
  refine lv_aload_n hx hb dX11_isTurned_0 rfl (lv_at hl 0 rfl) ?_
  refine gf_X11_30 hx hb hC hw 155 (gX_155 τ ad M) rfl dX11_isTurned_1 ?_
  refine lv_iload_n hx hb dX11_isTurned_4 rfl (lv_at hl 1 rfl) ?_
  refine k_cVz (wq_X τ ad) hx hb hml hC hLS hA hw hl.1 (mX6_hasEnded l D τ ad sA sV _ 8 p1 (by decide) hp1 M hM _ hv) kX6_hasEnded ml_X11_278 rfl (gS_X (by decide) τ ad M) rfl rfl (Nat.le_of_ble_eq_true rfl) (rm_ok (by decide) (by decide)) ⟨Nat.zero_le _, Nat.zero_le _⟩ dX11_isTurned_5 (fun x1 M1 H locs g1 z1 hM hv hw => ?_)
  have hv := hv g1 z1
  refine r_if_ne (tgt := 36) hx hb dX11_isTurned_8 (by decide) g1  (fun b2 => ?_) (fun b2 => ?_)
  · have hv := hv.1 b2
    exact J36  M1 _ _ _ hM hv hw (lv_sub hl [0, 1] rfl)
  · have hv := hv.2 b2
    refine lv_aload_n hx hb dX11_isTurned_11 rfl (lv_at hl 0 rfl) ?_
    refine gf_X11_30 hx hb hC hw 155 (gX_155 τ ad M1) rfl dX11_isTurned_12 ?_
    refine gf_X11_240 hx hb hC hw 8 (gS_X (by decide) τ ad M1) rfl dX11_isTurned_15 ?_
    refine lv_iload_n hx hb dX11_isTurned_18 rfl (lv_at hl 1 rfl) ?_
    obtain ⟨c8, hv⟩ := hv
    obtain ⟨c9, hv⟩ := hv
    refine r_iald hx hb hC hw 13 (gI_X (isS_f4 (by decide)) τ ad M1) c8 c9 (by decide) dX11_isTurned_19 ?_
    refine r_top (fun x10 e10 => ?_)
    have g10 : iR x10 := by rw [e10]; exact hM.get (isS_f4 (by decide)).pos _
    have hv := hv x10 e10 g10
    refine lv_aload_n hx hb dX11_isTurned_20 rfl (lv_at hl 0 rfl) ?_
    refine gf_X11_30 hx hb hC hw 155 (gX_155 τ ad M1) rfl dX11_isTurned_21 ?_
    refine gf_X11_250 hx hb hC hw 8 (gS_X (by decide) τ ad M1) rfl dX11_isTurned_24 ?_
    refine lv_iload_n hx hb dX11_isTurned_27 rfl (lv_at hl 1 rfl) ?_
    refine r_iald hx hb hC hw 12 (gI_X (isS_f3 (by decide)) τ ad M1) c8 c9 (by decide) dX11_isTurned_28 ?_
    refine r_top (fun x11 e11 => ?_)
    have g11 : iR x11 := by rw [e11]; exact hM.get (isS_f3 (by decide)).pos _
    have hv := hv x11 e11 g11
    refine r_icmp_ne (tgt := 36) hx hb dX11_isTurned_29 (by decide) g10 g11 (fun b12 => ?_) (fun b12 => ?_)
    · have hv := hv.1 b12
      exact J36  M1 _ _ _ hM hv hw (lv_sub hl [0, 1] rfl)
    · have hv := hv.2 b12
      refine r_iconst hx hb dX11_isTurned_32 ?_
      refine lv_goto (tgt := 37) hx hb dX11_isTurned_33 (by decide) ?_
      exact J37 1 M1 _ _ _ hM hv hw (lv_sub hl [0, 1] rfl)
set_option maxHeartbeats 4000000 in
set_option maxRecDepth 100000 in
theorem mX11_when (l : Launch) (D : va_G) (τ : Nat → ClassId) (ad : Nat → Nat) (sA sV : Nat → Nat) (sz : Nat) (p1 : Int) (hp1 : iR p1) (M : Mem) (hM : MR M) (Q : Int → Mem → Prop) (hv : qX11_when p1 M Q) : Met l yX11_when (lw_w yX11_when cX11_when 5 (some .int)) (rmk 6 0 0) (kPc D τ sA sV (WX τ ad M) sz [.ref (ad 155), .int (iI p1)]) (gQi D (EQi (WX τ ad) MR Q) (va_A (WX τ ad M) sz)) 0 0 (va_A (WX τ ad M) sz) := by
  refine k_met (ret := (some .int)) (Qc := gQi D (EQi (WX τ ad) MR Q)) (by decide +kernel) (Nat.le_of_ble_eq_true rfl) ?_
  intro p e s m args below meth c A ls hx hb hml hr hlk hnm hC hLS hA hw hl
  have hC : cx D τ s m args RX11 := hC
  have hl : lv_has ls 5 [(0, .ref (ad 155)), (1, .int (iI p1))] := hl
  unfold qX11_when at hv
  have J98 : ∀ (R : Int → Int → Int → Mem → Prop), (∀ (v2 : Int) (v3 : Int) (v4 : Int) (M : Mem) (H : Heap) (locs : List Loc) (ls : Array Slot), MR M → R v2 v3 v4 M → wS D A s.heap (WX τ ad M) H locs → lv_has ls 5 [(0, .ref (ad 155)), (1, .int (iI p1)), (2, .int (iI v2)), (3, .int (iI v3)), (4, .int (iI v4))] → W p l e (rmk 6 0 0) s m args below meth c H locs 0 0 (MQ below (gQi D (EQi (WX τ ad) MR Q) A) args s 0 0 A) (F0 m 31 ls [])) → ∀ (X119 : Int → Int → Mem → Prop), (∀ (v2 : Int) (v3 : Int) (M : Mem) (H : Heap) (locs : List Loc) (ls : Array Slot), MR M → X119 v2 v3 M → wS D A s.heap (WX τ ad M) H locs → lv_has ls 5 [(0, .ref (ad 155)), (2, .int (iI v2)), (3, .int (iI v3))] → W p l e (rmk 6 0 0) s m args below meth c H locs 0 0 (MQ below (gQi D (EQi (WX τ ad) MR Q) A) args s 0 0 A) (F0 m 119 ls [])) → ∀ (v2 : Int) (v3 : Int) (v4 : Int) (M : Mem) (H : Heap) (locs : List Loc) (ls : Array Slot), MR M → qX11_when_J98 p1 R X119 Q v2 v3 v4 M → wS D A s.heap (WX τ ad M) H locs → lv_has ls 5 [(0, .ref (ad 155)), (1, .int (iI p1)), (2, .int (iI v2)), (3, .int (iI v3)), (4, .int (iI v4))] → W p l e (rmk 6 0 0) s m args below meth c H locs 0 0 (MQ below (gQi D (EQi (WX τ ad) MR Q) A) args s 0 0 A) (F0 m 98 ls []) := by
    intro R hR X119 hX119 v2 v3 v4 M H locs ls hM hv hw hl
    unfold qX11_when_J98 at hv
    refine lv_aload_n hx hb dX11_when_98 rfl (lv_at hl 0 rfl) ?_
    refine gf_X11_44 hx hb hC hw 155 (gX_155 τ ad M) rfl dX11_when_99 ?_
    refine lv_aload_n hx hb dX11_when_102 rfl (lv_at hl 0 rfl) ?_
    refine gf_X11_33 hx hb hC hw 155 (gX_155 τ ad M) rfl dX11_when_103 ?_
    refine lv_aload_n hx hb dX11_when_106 rfl (lv_at hl 0 rfl) ?_
    refine gf_X11_105 hx hb hC hw 155 (gX_155 τ ad M) rfl dX11_when_107 ?_
    obtain ⟨c9, hv⟩ := hv
    refine k_cVv (wq_X τ ad) hx hb hml hC hLS hA hw hl.1 (mX10_advance l D τ ad sA sV _ 15 (M 155 16).toNat (by decide) c9 M hM _ hv) kX10_advance ml_X11_362 rfl (gX_160 τ ad M) rfl rfl (Nat.le_of_ble_eq_true rfl) (rm_ok (by decide) (by decide)) ⟨Nat.zero_le _, Nat.zero_le _⟩ dX11_when_110 (fun M10 H locs hM hv hw => ?_)
    refine r_iinc (v := (v4 + 1)) (lv' := [(4, .int (iI (v4 + 1))), (0, .ref (ad 155)), (1, .int (iI p1)), (2, .int (iI v2)), (3, .int (iI v3))]) hx hb dX11_when_113 hl (k := 4) rfl rfl (by decide) rfl (fun ls hl => ?_)
    refine lv_goto (tgt := 31) hx hb dX11_when_116 (by decide) ?_
    exact hR v2 v3 (v4 + 1) M10 _ _ _ hM hv hw (lv_sub hl [1, 2, 3, 4, 0] rfl)
  have J94 : ∀ (R : Int → Int → Int → Mem → Prop), (∀ (v2 : Int) (v3 : Int) (v4 : Int) (M : Mem) (H : Heap) (locs : List Loc) (ls : Array Slot), MR M → R v2 v3 v4 M → wS D A s.heap (WX τ ad M) H locs → lv_has ls 5 [(0, .ref (ad 155)), (1, .int (iI p1)), (2, .int (iI v2)), (3, .int (iI v3)), (4, .int (iI v4))] → W p l e (rmk 6 0 0) s m args below meth c H locs 0 0 (MQ below (gQi D (EQi (WX τ ad) MR Q) A) args s 0 0 A) (F0 m 31 ls [])) → ∀ (X119 : Int → Int → Mem → Prop), (∀ (v2 : Int) (v3 : Int) (M : Mem) (H : Heap) (locs : List Loc) (ls : Array Slot), MR M → X119 v2 v3 M → wS D A s.heap (WX τ ad M) H locs → lv_has ls 5 [(0, .ref (ad 155)), (2, .int (iI v2)), (3, .int (iI v3))] → W p l e (rmk 6 0 0) s m args below meth c H locs 0 0 (MQ below (gQi D (EQi (WX τ ad) MR Q) A) args s 0 0 A) (F0 m 119 ls [])) → ∀ (v4 : Int) (t0 : Int) (M : Mem) (H : Heap) (locs : List Loc) (ls : Array Slot), MR M → qX11_when_J94 p1 R X119 Q v4 t0 M → wS D A s.heap (WX τ ad M) H locs → lv_has ls 5 [(0, .ref (ad 155)), (1, .int (iI p1)), (4, .int (iI v4))] → W p l e (rmk 6 0 0) s m args below meth c H locs 0 0 (MQ below (gQi D (EQi (WX τ ad) MR Q) A) args s 0 0 A) (F0 m 94 ls [.int (iI t0)]) := by
    intro R hR X119 hX119 v4 t0 M H locs ls hM hv hw hl
    unfold qX11_when_J94 at hv
    refine lv_istore_n (lv' := [(2, .int (iI t0)), (0, .ref (ad 155)), (1, .int (iI p1)), (4, .int (iI v4))]) hx hb dX11_when_94 rfl hl (by decide) rfl (fun ls hl => ?_)
    refine lv_iload hx hb dX11_when_95 (lv_at hl 3 rfl) ?_
    refine lv_istore_n (lv' := [(3, .int (iI v4)), (2, .int (iI t0)), (0, .ref (ad 155)), (1, .int (iI p1)), (4, .int (iI v4))]) hx hb dX11_when_97 rfl hl (by decide) rfl (fun ls hl => ?_)
    exact J98 _ hR _ hX119 t0 v4 v4 M _ _ _ hM hv hw (lv_sub hl [2, 3, 1, 0, 4] rfl)
  have L31 : ∀ (X119 : Int → Int → Mem → Prop), (∀ (v2 : Int) (v3 : Int) (M : Mem) (H : Heap) (locs : List Loc) (ls : Array Slot), MR M → X119 v2 v3 M → wS D A s.heap (WX τ ad M) H locs → lv_has ls 5 [(0, .ref (ad 155)), (2, .int (iI v2)), (3, .int (iI v3))] → W p l e (rmk 6 0 0) s m args below meth c H locs 0 0 (MQ below (gQi D (EQi (WX τ ad) MR Q) A) args s 0 0 A) (F0 m 119 ls [])) → ∀ (n : Nat) (v2 : Int) (v3 : Int) (v4 : Int) (M : Mem) (H : Heap) (locs : List Loc) (ls : Array Slot), MR M → qX11_when_L31 p1 X119 Q n v2 v3 v4 M → wS D A s.heap (WX τ ad M) H locs → lv_has ls 5 [(0, .ref (ad 155)), (1, .int (iI p1)), (2, .int (iI v2)), (3, .int (iI v3)), (4, .int (iI v4))] → W p l e (rmk 6 0 0) s m args below meth c H locs 0 0 (MQ below (gQi D (EQi (WX τ ad) MR Q) A) args s 0 0 A) (F0 m 31 ls []) := by
    intro X119 hX119 n
    induction n with
    | zero => intro v2 v3 v4 M H locs ls hM hv; rw [qX11_when_L31] at hv; exact hv.elim
    | succ n ih =>
      intro v2 v3 v4 M H locs ls hM hv hw hl
      rw [qX11_when_L31] at hv
      refine lv_iload hx hb dX11_when_31 (lv_at hl 4 rfl) ?_
      refine r_bipush hx hb dX11_when_33 (by decide +kernel) ?_
      obtain ⟨c4, hv⟩ := hv
      refine r_icmp_gt (tgt := 119) hx hb dX11_when_35 (by decide) c4 (by decide) (fun b5 => ?_) (fun b5 => ?_)
      · have hv := hv.1 b5
        exact hX119 v2 v3 M _ _ _ hM hv hw (lv_sub hl [0, 2, 3] rfl)
      · have hv := hv.2 b5
        refine lv_aload_n hx hb dX11_when_38 rfl (lv_at hl 0 rfl) ?_
        refine gf_X11_30 hx hb hC hw 155 (gX_155 τ ad M) rfl dX11_when_39 ?_
        refine lv_aload_n hx hb dX11_when_42 rfl (lv_at hl 0 rfl) ?_
        refine gf_X11_33 hx hb hC hw 155 (gX_155 τ ad M) rfl dX11_when_43 ?_
        refine k_cVv (wq_X τ ad) hx hb hml hC hLS hA hw hl.1 (mX6_copyFrom l D τ ad sA sV _ 8 15 (by decide) (by decide) M hM _ hv) kX6_copyFrom ml_X11_153 rfl (gS_X (by decide) τ ad M) rfl rfl (Nat.le_of_ble_eq_true rfl) (rm_ok (by decide) (by decide)) ⟨Nat.zero_le _, Nat.zero_le _⟩ dX11_when_46 (fun M6 H locs hM hv hw => ?_)
        refine lv_aload_n hx hb dX11_when_49 rfl (lv_at hl 0 rfl) ?_
        refine lv_iload_n hx hb dX11_when_50 rfl (lv_at hl 1 rfl) ?_
        refine k_cVz (wq_X τ ad) hx hb hml hC hLS hA hw hl.1 (mX11_isTurned l D τ ad sA sV _ p1 hp1 M6 hM _ hv) kX11_isTurned ml_X11_423 rfl (gX_155 τ ad M6) rfl rfl (Nat.le_of_ble_eq_true rfl) (rm_ok (by decide) (by decide)) ⟨Nat.zero_le _, Nat.zero_le _⟩ dX11_when_51 (fun x7 M7 H locs g7 z7 hM hv hw => ?_)
        have hv := hv g7 z7
        refine r_if_eq (tgt := 98) hx hb dX11_when_54 (by decide) g7  (fun b8 => ?_) (fun b8 => ?_)
        · have hv := hv.1 b8
          exact J98 _ ih _ hX119 v2 v3 v4 M7 _ _ _ hM hv hw (lv_sub hl [0, 1, 2, 3, 4] rfl)
        · have hv := hv.2 b8
          refine lv_aload_n hx hb dX11_when_57 rfl (lv_at hl 0 rfl) ?_
          refine gf_X11_44 hx hb hC hw 155 (gX_155 τ ad M7) rfl dX11_when_58 ?_
          refine lv_aload_n hx hb dX11_when_61 rfl (lv_at hl 0 rfl) ?_
          refine gf_X11_30 hx hb hC hw 155 (gX_155 τ ad M7) rfl dX11_when_62 ?_
          refine lv_aload_n hx hb dX11_when_65 rfl (lv_at hl 0 rfl) ?_
          refine gf_X11_105 hx hb hC hw 155 (gX_155 τ ad M7) rfl dX11_when_66 ?_
          obtain ⟨c11, hv⟩ := hv
          refine k_cVv (wq_X τ ad) hx hb hml hC hLS hA hw hl.1 (mX10_toEnd l D τ ad sA sV _ 8 (M7 155 16).toNat (by decide) c11 M7 hM _ hv) kX10_toEnd ml_X11_394 rfl (gX_160 τ ad M7) rfl rfl (Nat.le_of_ble_eq_true rfl) (rm_ok (by decide) (by decide)) ⟨Nat.zero_le _, Nat.zero_le _⟩ dX11_when_69 (fun M12 H locs hM hv hw => ?_)
          refine lv_aload_n hx hb dX11_when_72 rfl (lv_at hl 0 rfl) ?_
          refine gf_X11_30 hx hb hC hw 155 (gX_155 τ ad M12) rfl dX11_when_73 ?_
          refine lv_iload_n hx hb dX11_when_76 rfl (lv_at hl 1 rfl) ?_
          refine k_cVz (wq_X τ ad) hx hb hml hC hLS hA hw hl.1 (mX6_isRight l D τ ad sA sV _ 8 p1 (by decide) hp1 M12 hM _ hv) kX6_isRight ml_X11_420 rfl (gS_X (by decide) τ ad M12) rfl rfl (Nat.le_of_ble_eq_true rfl) (rm_ok (by decide) (by decide)) ⟨Nat.zero_le _, Nat.zero_le _⟩ dX11_when_77 (fun x13 M13 H locs g13 z13 hM hv hw => ?_)
          have hv := hv g13 z13
          refine r_if_eq (tgt := 98) hx hb dX11_when_80 (by decide) g13  (fun b14 => ?_) (fun b14 => ?_)
          · have hv := hv.1 b14
            exact J98 _ ih _ hX119 v2 v3 v4 M13 _ _ _ hM hv hw (lv_sub hl [0, 1, 2, 3, 4] rfl)
          · have hv := hv.2 b14
            refine lv_iload_n hx hb dX11_when_83 rfl (lv_at hl 2 rfl) ?_
            refine r_iconst hx hb dX11_when_84 ?_
            obtain ⟨c15, hv⟩ := hv
            refine r_icmp_ne (tgt := 93) hx hb dX11_when_85 (by decide) c15 (by decide) (fun b16 => ?_) (fun b16 => ?_)
            · have hv := hv.1 b16
              refine lv_iload_n hx hb dX11_when_93 rfl (lv_at hl 2 rfl) ?_
              exact J94 _ ih _ hX119 v4 v2 M13 _ _ _ hM hv hw (lv_sub hl [0, 1, 4] rfl)
            · have hv := hv.2 b16
              refine lv_iload hx hb dX11_when_88 (lv_at hl 4 rfl) ?_
              refine lv_goto (tgt := 94) hx hb dX11_when_90 (by decide) ?_
              exact J94 _ ih _ hX119 v4 v4 M13 _ _ _ hM hv hw (lv_sub hl [0, 1, 4] rfl)
  refine lv_aload_n hx hb dX11_when_0 rfl (lv_at hl 0 rfl) ?_
  refine gf_X11_26 hx hb hC hw 155 (gX_155 τ ad M) rfl dX11_when_1 ?_
  refine lv_iload_n hx hb dX11_when_4 rfl (lv_at hl 1 rfl) ?_
  refine k_cVz (wq_X τ ad) hx hb hml hC hLS hA hw hl.1 (mX6_isMourner l D τ ad sA sV _ 1 p1 (by decide) hp1 M hM _ hv) kX6_isMourner ml_X11_265 rfl (gS_X (by decide) τ ad M) rfl rfl (Nat.le_of_ble_eq_true rfl) (rm_ok (by decide) (by decide)) ⟨Nat.zero_le _, Nat.zero_le _⟩ dX11_when_5 (fun x1 M1 H locs g1 z1 hM hv hw => ?_)
  have hv := hv g1 z1
  refine r_if_ne (tgt := 13) hx hb dX11_when_8 (by decide) g1  (fun b2 => ?_) (fun b2 => ?_)
  · have hv := hv.1 b2
    refine lv_aload_n hx hb dX11_when_13 rfl (lv_at hl 0 rfl) ?_
    refine gf_X11_33 hx hb hC hw 155 (gX_155 τ ad M1) rfl dX11_when_14 ?_
    refine lv_aload_n hx hb dX11_when_17 rfl (lv_at hl 0 rfl) ?_
    refine gf_X11_26 hx hb hC hw 155 (gX_155 τ ad M1) rfl dX11_when_18 ?_
    refine k_cVv (wq_X τ ad) hx hb hml hC hLS hA hw hl.1 (mX6_copyFrom l D τ ad sA sV _ 15 1 (by decide) (by decide) M1 hM _ hv) kX6_copyFrom ml_X11_153 rfl (gS_X (by decide) τ ad M1) rfl rfl (Nat.le_of_ble_eq_true rfl) (rm_ok (by decide) (by decide)) ⟨Nat.zero_le _, Nat.zero_le _⟩ dX11_when_21 (fun M3 H locs hM hv hw => ?_)
    refine r_iconst hx hb dX11_when_24 ?_
    refine lv_istore_n (lv' := [(2, .int (iI (-1))), (0, .ref (ad 155)), (1, .int (iI p1))]) hx hb dX11_when_25 rfl hl (by decide) rfl (fun ls hl => ?_)
    refine r_iconst hx hb dX11_when_26 ?_
    refine lv_istore_n (lv' := [(3, .int (iI (-1))), (2, .int (iI (-1))), (0, .ref (ad 155)), (1, .int (iI p1))]) hx hb dX11_when_27 rfl hl (by decide) rfl (fun ls hl => ?_)
    refine r_iconst hx hb dX11_when_28 ?_
    refine lv_istore (lv' := [(4, .int (iI 0)), (3, .int (iI (-1))), (2, .int (iI (-1))), (0, .ref (ad 155)), (1, .int (iI p1))]) hx hb dX11_when_29 hl (by decide) rfl (fun ls hl => ?_)
    obtain ⟨n17, hv⟩ := hv
    refine L31 _ ?_ n17 (-1) (-1) 0 M3 _ _ _ hM hv hw (lv_sub hl [3, 4, 2, 1, 0] rfl)
    · intro v2 v3 M H locs ls hM hv hw hl
      refine lv_iload_n hx hb dX11_when_119 rfl (lv_at hl 1 rfl) ?_
      refine r_iconst hx hb dX11_when_120 ?_
      obtain ⟨c18, hv⟩ := hv
      refine r_icmp_ne (tgt := 127) hx hb dX11_when_121 (by decide) c18 (by decide) (fun b19 => ?_) (fun b19 => ?_)
      · have hv := hv.1 b19
        refine lv_aload_n hx hb dX11_when_127 rfl (lv_at hl 0 rfl) ?_
        refine gf_X11_66 hx hb hC hw 155 (gX_155 τ ad M) rfl dX11_when_128 ?_
        refine lv_iload_n hx hb dX11_when_131 rfl (lv_at hl 2 rfl) ?_
        obtain ⟨c20, hv⟩ := hv
        refine r_i2l hx hb dX11_when_132 c20 ?_
        refine k_cVv (wq_X τ ad) hx hb hml hC hLS hA hw hl.1 (mX4_tellOne l D τ ad sA sV _ v3 (iR_lR c20) M hM _ hv) kX4_tellOne ml_X11_366 rfl (gX_167 τ ad M) rfl rfl (Nat.le_of_ble_eq_true rfl) (rm_ok (by decide) (by decide)) ⟨Nat.zero_le _, Nat.zero_le _⟩ dX11_when_133 (fun M21 H locs hM hv hw => ?_)
        refine lv_iload_n hx hb dX11_when_136 rfl (lv_at hl 1 rfl) ?_
        exact k_iret (wq_X τ ad) hx hb hr hlk hw hM c18 hv dX11_when_137
      · have hv := hv.2 b19
        refine r_bipush hx hb dX11_when_124 (by decide +kernel) ?_
        exact k_iret (wq_X τ ad) hx hb hr hlk hw hM (by decide) hv dX11_when_126
  · have hv := hv.2 b2
    refine r_iconst hx hb dX11_when_11 ?_
    exact k_iret (wq_X τ ad) hx hb hr hlk hw hM (by decide) hv dX11_when_12
set_option maxHeartbeats 4000000 in
set_option maxRecDepth 100000 in
theorem mX11_ableToTurn (l : Launch) (D : va_G) (τ : Nat → ClassId) (ad : Nat → Nat) (sA sV : Nat → Nat) (sz : Nat)   (M : Mem) (hM : MR M) (Q : Int → Mem → Prop) (hv : qX11_ableToTurn  M Q) : Met l yX11_ableToTurn (lw_w yX11_ableToTurn cX11_ableToTurn 3 (some .int)) (rmk 3 0 0) (kPc D τ sA sV (WX τ ad M) sz [.ref (ad 155)]) (gQi D (EQi (WX τ ad) MR Q) (va_A (WX τ ad M) sz)) 0 0 (va_A (WX τ ad M) sz) := by
  refine k_met (ret := (some .int)) (Qc := gQi D (EQi (WX τ ad) MR Q)) (by decide +kernel) (Nat.le_of_ble_eq_true rfl) ?_
  intro p e s m args below meth c A ls hx hb hml hr hlk hnm hC hLS hA hw hl
  have hC : cx D τ s m args RX11 := hC
  have hl : lv_has ls 3 [(0, .ref (ad 155))] := hl
  unfold qX11_ableToTurn at hv
  have L15 : ∀ (n : Nat) (v1 : Int) (v2 : Int) (M : Mem) (H : Heap) (locs : List Loc) (ls : Array Slot), MR M → qX11_ableToTurn_L15   Q n v1 v2 M → wS D A s.heap (WX τ ad M) H locs → lv_has ls 3 [(0, .ref (ad 155)), (1, .int (iI v1)), (2, .int (iI v2))] → W p l e (rmk 3 0 0) s m args below meth c H locs 0 0 (MQ below (gQi D (EQi (WX τ ad) MR Q) A) args s 0 0 A) (F0 m 15 ls []) := by
    intro n
    induction n with
    | zero => intro v1 v2 M H locs ls hM hv; rw [qX11_ableToTurn_L15] at hv; exact hv.elim
    | succ n ih =>
      intro v1 v2 M H locs ls hM hv hw hl
      rw [qX11_ableToTurn_L15] at hv
      refine lv_iload_n hx hb dX11_ableToTurn_15 rfl (lv_at hl 2 rfl) ?_
      refine lv_aload_n hx hb dX11_ableToTurn_16 rfl (lv_at hl 0 rfl) ?_
      refine gf_X11_26 hx hb hC hw 155 (gX_155 τ ad M) rfl dX11_ableToTurn_17 ?_
      refine gf_X11_191 hx hb hC hw 1 (gS_X (by decide) τ ad M) rfl dX11_ableToTurn_20 ?_
      refine r_top (fun x2 e2 => ?_)
      have g2 : iR x2 := by rw [e2]; exact hM.get (by decide) _
      have hv := hv x2 e2 g2
      obtain ⟨c3, hv⟩ := hv
      refine r_icmp_ge (tgt := 56) hx hb dX11_ableToTurn_23 (by decide) c3 g2 (fun b4 => ?_) (fun b4 => ?_)
      · have hv := hv.1 b4
        refine lv_iload_n hx hb dX11_ableToTurn_56 rfl (lv_at hl 1 rfl) ?_
        obtain ⟨c5, hv⟩ := hv
        exact k_iret (wq_X τ ad) hx hb hr hlk hw hM c5 hv dX11_ableToTurn_57
      · have hv := hv.2 b4
        refine lv_iload_n hx hb dX11_ableToTurn_26 rfl (lv_at hl 1 rfl) ?_
        refine lv_aload_n hx hb dX11_ableToTurn_27 rfl (lv_at hl 0 rfl) ?_
        refine gf_X11_30 hx hb hC hw 155 (gX_155 τ ad M) rfl dX11_ableToTurn_28 ?_
        refine lv_iload_n hx hb dX11_ableToTurn_31 rfl (lv_at hl 2 rfl) ?_
        refine k_cVi (wq_X τ ad) hx hb hml hC hLS hA hw hl.1 (mX6_turn l D τ ad sA sV _ 8 v2 (by decide) c3 M hM _ hv) kX6_turn ml_X11_308 rfl (gS_X (by decide) τ ad M) rfl rfl (Nat.le_of_ble_eq_true rfl) (rm_ok (by decide) (by decide)) ⟨Nat.zero_le _, Nat.zero_le _⟩ dX11_ableToTurn_32 (fun x6 M6 H locs g6 hM hv hw => ?_)
        have hv := hv g6
        refine k_cSz (wq_X τ ad) hx hb hml hC hLS hA hw hl.1 (mX11_isDone l D τ ad sA sV _ x6 g6 M6 hM _ hv) kX11_isDone ml_X11_318 rfl rfl (Nat.le_of_ble_eq_true rfl) (rm_ok (by decide) (by decide)) ⟨Nat.zero_le _, Nat.zero_le _⟩ dX11_ableToTurn_35 (fun x7 M7 H locs g7 z7 hM hv hw => ?_)
        have hv := hv g7 z7
        refine r_if_eq (tgt := 47) hx hb dX11_ableToTurn_38 (by decide) g7  (fun b8 => ?_) (fun b8 => ?_)
        · have hv := hv.1 b8
          refine r_iconst hx hb dX11_ableToTurn_47 ?_
          refine r_iorF hx hb dX11_ableToTurn_48 (fun x9 e9 g9 => ?_)
          have hv := hv x9 e9 g9
          refine lv_istore_n (lv' := [(1, .int (iI x9)), (0, .ref (ad 155)), (2, .int (iI v2))]) hx hb dX11_ableToTurn_49 rfl hl (by decide) rfl (fun ls hl => ?_)
          refine r_iinc (v := (v2 + 1)) (lv' := [(2, .int (iI (v2 + 1))), (1, .int (iI x9)), (0, .ref (ad 155))]) hx hb dX11_ableToTurn_50 hl (k := 2) rfl rfl (by decide) rfl (fun ls hl => ?_)
          refine lv_goto (tgt := 15) hx hb dX11_ableToTurn_53 (by decide) ?_
          exact ih x9 (v2 + 1) M7 _ _ _ hM hv hw (lv_sub hl [2, 1, 0] rfl)
        · have hv := hv.2 b8
          refine r_iconst hx hb dX11_ableToTurn_41 ?_
          refine lv_iload_n hx hb dX11_ableToTurn_42 rfl (lv_at hl 2 rfl) ?_
          refine r_ishlF hx hb dX11_ableToTurn_43 (fun x10 e10 g10 => ?_)
          have hv := hv x10 e10 g10
          refine lv_goto (tgt := 48) hx hb dX11_ableToTurn_44 (by decide) ?_
          refine r_iorF hx hb dX11_ableToTurn_48 (fun x11 e11 g11 => ?_)
          have hv := hv x11 e11 g11
          refine lv_istore_n (lv' := [(1, .int (iI x11)), (0, .ref (ad 155)), (2, .int (iI v2))]) hx hb dX11_ableToTurn_49 rfl hl (by decide) rfl (fun ls hl => ?_)
          refine r_iinc (v := (v2 + 1)) (lv' := [(2, .int (iI (v2 + 1))), (1, .int (iI x11)), (0, .ref (ad 155))]) hx hb dX11_ableToTurn_50 hl (k := 2) rfl rfl (by decide) rfl (fun ls hl => ?_)
          refine lv_goto (tgt := 15) hx hb dX11_ableToTurn_53 (by decide) ?_
          exact ih x11 (v2 + 1) M7 _ _ _ hM hv hw (lv_sub hl [2, 1, 0] rfl)
  refine lv_aload_n hx hb dX11_ableToTurn_0 rfl (lv_at hl 0 rfl) ?_
  refine gf_X11_30 hx hb hC hw 155 (gX_155 τ ad M) rfl dX11_ableToTurn_1 ?_
  refine lv_aload_n hx hb dX11_ableToTurn_4 rfl (lv_at hl 0 rfl) ?_
  refine gf_X11_26 hx hb hC hw 155 (gX_155 τ ad M) rfl dX11_ableToTurn_5 ?_
  refine k_cVv (wq_X τ ad) hx hb hml hC hLS hA hw hl.1 (mX6_copyFrom l D τ ad sA sV _ 8 1 (by decide) (by decide) M hM _ hv) kX6_copyFrom ml_X11_153 rfl (gS_X (by decide) τ ad M) rfl rfl (Nat.le_of_ble_eq_true rfl) (rm_ok (by decide) (by decide)) ⟨Nat.zero_le _, Nat.zero_le _⟩ dX11_ableToTurn_8 (fun M1 H locs hM hv hw => ?_)
  refine r_iconst hx hb dX11_ableToTurn_11 ?_
  refine lv_istore_n (lv' := [(1, .int (iI 0)), (0, .ref (ad 155))]) hx hb dX11_ableToTurn_12 rfl hl (by decide) rfl (fun ls hl => ?_)
  refine r_iconst hx hb dX11_ableToTurn_13 ?_
  refine lv_istore_n (lv' := [(2, .int (iI 0)), (1, .int (iI 0)), (0, .ref (ad 155))]) hx hb dX11_ableToTurn_14 rfl hl (by decide) rfl (fun ls hl => ?_)
  obtain ⟨n12, hv⟩ := hv
  refine L15  n12 0 0 M1 _ _ _ hM hv hw (lv_sub hl [2, 1, 0] rfl)
set_option maxHeartbeats 4000000 in
set_option maxRecDepth 100000 in
theorem mX11_turnInTrial (l : Launch) (D : va_G) (τ : Nat → ClassId) (ad : Nat → Nat) (sA sV : Nat → Nat) (sz : Nat) (p1 : Int) (hp1 : iR p1) (M : Mem) (hM : MR M) (Q : Mem → Prop) (hv : qX11_turnInTrial p1 M Q) : Met l yX11_turnInTrial (lw_w yX11_turnInTrial cX11_turnInTrial 3 none) (rmk 3 0 0) (kPc D τ sA sV (WX τ ad M) sz [.ref (ad 155), .int (iI p1)]) (gQv D (EQv (WX τ ad) MR Q) (va_A (WX τ ad M) sz)) 0 0 (va_A (WX τ ad M) sz) := by
  refine k_met (ret := none) (Qc := gQv D (EQv (WX τ ad) MR Q)) (by decide +kernel) (Nat.le_of_ble_eq_true rfl) ?_
  intro p e s m args below meth c A ls hx hb hml hr hlk hnm hC hLS hA hw hl
  have hC : cx D τ s m args RX11 := hC
  have hl : lv_has ls 3 [(0, .ref (ad 155)), (1, .int (iI p1))] := hl
  unfold qX11_turnInTrial at hv
  have L13 : ∀ (n : Nat) (v2 : Int) (M : Mem) (H : Heap) (locs : List Loc) (ls : Array Slot), MR M → qX11_turnInTrial_L13 p1  Q n v2 M → wS D A s.heap (WX τ ad M) H locs → lv_has ls 3 [(0, .ref (ad 155)), (1, .int (iI p1)), (2, .int (iI v2))] → W p l e (rmk 3 0 0) s m args below meth c H locs 0 0 (MQ below (gQv D (EQv (WX τ ad) MR Q) A) args s 0 0 A) (F0 m 13 ls []) := by
    intro n
    induction n with
    | zero => intro v2 M H locs ls hM hv; rw [qX11_turnInTrial_L13] at hv; exact hv.elim
    | succ n ih =>
      intro v2 M H locs ls hM hv hw hl
      rw [qX11_turnInTrial_L13] at hv
      refine lv_iload_n hx hb dX11_turnInTrial_13 rfl (lv_at hl 2 rfl) ?_
      refine lv_aload_n hx hb dX11_turnInTrial_14 rfl (lv_at hl 0 rfl) ?_
      refine gf_X11_26 hx hb hC hw 155 (gX_155 τ ad M) rfl dX11_turnInTrial_15 ?_
      refine gf_X11_191 hx hb hC hw 1 (gS_X (by decide) τ ad M) rfl dX11_turnInTrial_18 ?_
      refine r_top (fun x2 e2 => ?_)
      have g2 : iR x2 := by rw [e2]; exact hM.get (by decide) _
      have hv := hv x2 e2 g2
      obtain ⟨c3, hv⟩ := hv
      refine r_icmp_ge (tgt := 48) hx hb dX11_turnInTrial_21 (by decide) c3 g2 (fun b4 => ?_) (fun b4 => ?_)
      · have hv := hv.1 b4
        exact k_vret (wq_X τ ad) hx hb hr hlk hw hM hv dX11_turnInTrial_48
      · have hv := hv.2 b4
        refine lv_iload_n hx hb dX11_turnInTrial_24 rfl (lv_at hl 1 rfl) ?_
        refine lv_iload_n hx hb dX11_turnInTrial_25 rfl (lv_at hl 2 rfl) ?_
        refine r_ishrF hx hb dX11_turnInTrial_26 (fun x5 e5 g5 => ?_)
        have hv := hv x5 e5 g5
        refine r_iconst hx hb dX11_turnInTrial_27 ?_
        refine r_iandF hx hb dX11_turnInTrial_28 (fun x6 e6 g6 => ?_)
        have hv := hv x6 e6 g6
        refine r_iconst hx hb dX11_turnInTrial_29 ?_
        refine r_icmp_ne (tgt := 42) hx hb dX11_turnInTrial_30 (by decide) g6 (by decide) (fun b7 => ?_) (fun b7 => ?_)
        · have hv := hv.1 b7
          refine r_iinc (v := (v2 + 1)) (lv' := [(2, .int (iI (v2 + 1))), (0, .ref (ad 155)), (1, .int (iI p1))]) hx hb dX11_turnInTrial_42 hl (k := 2) rfl rfl (by decide) rfl (fun ls hl => ?_)
          refine lv_goto (tgt := 13) hx hb dX11_turnInTrial_45 (by decide) ?_
          exact ih (v2 + 1) M _ _ _ hM hv hw (lv_sub hl [1, 2, 0] rfl)
        · have hv := hv.2 b7
          refine lv_aload_n hx hb dX11_turnInTrial_33 rfl (lv_at hl 0 rfl) ?_
          refine gf_X11_30 hx hb hC hw 155 (gX_155 τ ad M) rfl dX11_turnInTrial_34 ?_
          refine lv_iload_n hx hb dX11_turnInTrial_37 rfl (lv_at hl 2 rfl) ?_
          refine k_cVi (wq_X τ ad) hx hb hml hC hLS hA hw hl.1 (mX6_turn l D τ ad sA sV _ 8 v2 (by decide) c3 M hM _ hv) kX6_turn ml_X11_308 rfl (gS_X (by decide) τ ad M) rfl rfl (Nat.le_of_ble_eq_true rfl) (rm_ok (by decide) (by decide)) ⟨Nat.zero_le _, Nat.zero_le _⟩ dX11_turnInTrial_38 (fun x8 M8 H locs g8 hM hv hw => ?_)
          have hv := hv g8
          refine lv_pop hx hb dX11_turnInTrial_41 rfl ?_
          refine r_iinc (v := (v2 + 1)) (lv' := [(2, .int (iI (v2 + 1))), (0, .ref (ad 155)), (1, .int (iI p1))]) hx hb dX11_turnInTrial_42 hl (k := 2) rfl rfl (by decide) rfl (fun ls hl => ?_)
          refine lv_goto (tgt := 13) hx hb dX11_turnInTrial_45 (by decide) ?_
          exact ih (v2 + 1) M8 _ _ _ hM hv hw (lv_sub hl [1, 2, 0] rfl)
  refine lv_aload_n hx hb dX11_turnInTrial_0 rfl (lv_at hl 0 rfl) ?_
  refine gf_X11_30 hx hb hC hw 155 (gX_155 τ ad M) rfl dX11_turnInTrial_1 ?_
  refine lv_aload_n hx hb dX11_turnInTrial_4 rfl (lv_at hl 0 rfl) ?_
  refine gf_X11_26 hx hb hC hw 155 (gX_155 τ ad M) rfl dX11_turnInTrial_5 ?_
  refine k_cVv (wq_X τ ad) hx hb hml hC hLS hA hw hl.1 (mX6_copyFrom l D τ ad sA sV _ 8 1 (by decide) (by decide) M hM _ hv) kX6_copyFrom ml_X11_153 rfl (gS_X (by decide) τ ad M) rfl rfl (Nat.le_of_ble_eq_true rfl) (rm_ok (by decide) (by decide)) ⟨Nat.zero_le _, Nat.zero_le _⟩ dX11_turnInTrial_8 (fun M1 H locs hM hv hw => ?_)
  refine r_iconst hx hb dX11_turnInTrial_11 ?_
  refine lv_istore_n (lv' := [(2, .int (iI 0)), (0, .ref (ad 155)), (1, .int (iI p1))]) hx hb dX11_turnInTrial_12 rfl hl (by decide) rfl (fun ls hl => ?_)
  obtain ⟨n9, hv⟩ := hv
  refine L13  n9 0 M1 _ _ _ hM hv hw (lv_sub hl [1, 2, 0] rfl)
