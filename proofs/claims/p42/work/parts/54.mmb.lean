set_option maxHeartbeats 4000000 in
set_option maxRecDepth 100000 in
theorem mX12_freeAhead (l : Launch) (D : va_G) (τ : Nat → ClassId) (ad : Nat → Nat) (sA sV : Nat → Nat) (sz : Nat) (k1 : Nat) (p2 : Int) (hk1 : MI 38 k1) (hp2 : iR p2) (M : Mem) (hM : MR M) (Q : Int → Mem → Prop) (hv : qX12_freeAhead k1 p2 M Q) : Met l yX12_freeAhead (lw_w yX12_freeAhead cX12_freeAhead 4 (some .int)) (rmk 2 0 0) (kPc D τ sA sV (WM τ ad M) sz [.ref (ad 1), .ref (ad k1), .int (iI p2)]) (gQi D (EQi (WM τ ad) MR Q) (va_A (WM τ ad M) sz)) 0 0 (va_A (WM τ ad M) sz) := by
  refine k_met (ret := (some .int)) (Qc := gQi D (EQi (WM τ ad) MR Q)) (by decide +kernel) (Nat.le_of_ble_eq_true rfl) ?_
  intro p e s m args below meth c A ls hx hb hml hr hlk hnm hC hLS hA hw hl
  have hC : cx D τ s m args RX12 := hC
  have hl : lv_has ls 4 [(0, .ref (ad 1)), (1, .ref (ad k1)), (2, .int (iI p2))] := hl
  unfold qX12_freeAhead at hv
  have L2 : ∀ (n : Nat) (v3 : Int) (M : Mem) (H : Heap) (locs : List Loc) (ls : Array Slot), MR M → qX12_freeAhead_L2 k1 p2  Q n v3 M → wS D A s.heap (WM τ ad M) H locs → lv_has ls 4 [(0, .ref (ad 1)), (1, .ref (ad k1)), (2, .int (iI p2)), (3, .int (iI v3))] → W p l e (rmk 2 0 0) s m args below meth c H locs 0 0 (MQ below (gQi D (EQi (WM τ ad) MR Q) A) args s 0 0 A) (F0 m 2 ls []) := by
    intro n
    induction n with
    | zero => intro v3 M H locs ls hM hv; rw [qX12_freeAhead_L2] at hv; exact hv.elim
    | succ n ih =>
      intro v3 M H locs ls hM hv hw hl
      rw [qX12_freeAhead_L2] at hv
      refine lv_iload_n hx hb dX12_freeAhead_2 rfl (lv_at hl 2 rfl) ?_
      refine lv_iload_n hx hb dX12_freeAhead_3 rfl (lv_at hl 3 rfl) ?_
      refine r_iadd (z := (p2 + v3)) hx hb dX12_freeAhead_4 rfl ?_
      refine lv_aload_n hx hb dX12_freeAhead_5 rfl (lv_at hl 0 rfl) ?_
      refine k_cVi (wq_M τ ad) hx hb hml hC hLS hA hw hl.1 (mX12_gate l D τ ad sA sV _   M hM _ hv) kX12_gate ml_X12_192 rfl (gM_1 τ ad M) rfl rfl (Nat.le_of_ble_eq_true rfl) (rm_ok (by decide) (by decide)) ⟨Nat.zero_le _, Nat.zero_le _⟩ dX12_freeAhead_6 (fun x1 M1 H locs g1 hM hv hw => ?_)
      have hv := hv g1
      obtain ⟨c2, hv⟩ := hv
      refine r_icmp_ge (tgt := 43) hx hb dX12_freeAhead_9 (by decide) c2 g1 (fun b3 => ?_) (fun b3 => ?_)
      · have hv := hv.1 b3
        refine lv_iload_n hx hb dX12_freeAhead_43 rfl (lv_at hl 3 rfl) ?_
        obtain ⟨c4, hv⟩ := hv
        exact k_iret (wq_M τ ad) hx hb hr hlk hw hM c4 hv dX12_freeAhead_44
      · have hv := hv.2 b3
        refine lv_iload_n hx hb dX12_freeAhead_12 rfl (lv_at hl 2 rfl) ?_
        refine lv_iload_n hx hb dX12_freeAhead_13 rfl (lv_at hl 3 rfl) ?_
        refine r_iadd (z := (p2 + v3)) hx hb dX12_freeAhead_14 rfl ?_
        refine r_iconst hx hb dX12_freeAhead_15 ?_
        refine r_iadd (z := ((p2 + v3) + 1)) hx hb dX12_freeAhead_16 rfl ?_
        refine lv_aload_n hx hb dX12_freeAhead_17 rfl (lv_at hl 0 rfl) ?_
        refine k_cVi (wq_M τ ad) hx hb hml hC hLS hA hw hl.1 (mX12_gate l D τ ad sA sV _   M1 hM _ hv) kX12_gate ml_X12_192 rfl (gM_1 τ ad M1) rfl rfl (Nat.le_of_ble_eq_true rfl) (rm_ok (by decide) (by decide)) ⟨Nat.zero_le _, Nat.zero_le _⟩ dX12_freeAhead_18 (fun x5 M5 H locs g5 hM hv hw => ?_)
        have hv := hv g5
        obtain ⟨c6, hv⟩ := hv
        refine r_icmp_eq (tgt := 37) hx hb dX12_freeAhead_21 (by decide) c6 g5 (fun b7 => ?_) (fun b7 => ?_)
        · have hv := hv.1 b7
          refine r_iinc (v := (v3 + 1)) (lv' := [(3, .int (iI (v3 + 1))), (0, .ref (ad 1)), (1, .ref (ad k1)), (2, .int (iI p2))]) hx hb dX12_freeAhead_37 hl (k := 3) rfl rfl (by decide) rfl (fun ls hl => ?_)
          refine lv_goto (tgt := 2) hx hb dX12_freeAhead_40 (by decide) ?_
          exact ih (v3 + 1) M5 _ _ _ hM hv hw (lv_sub hl [1, 2, 3, 0] rfl)
        · have hv := hv.2 b7
          refine lv_aload_n hx hb dX12_freeAhead_24 rfl (lv_at hl 0 rfl) ?_
          refine lv_aload_n hx hb dX12_freeAhead_25 rfl (lv_at hl 1 rfl) ?_
          refine lv_iload_n hx hb dX12_freeAhead_26 rfl (lv_at hl 2 rfl) ?_
          refine lv_iload_n hx hb dX12_freeAhead_27 rfl (lv_at hl 3 rfl) ?_
          refine r_iadd (z := (p2 + v3)) hx hb dX12_freeAhead_28 rfl ?_
          refine r_iconst hx hb dX12_freeAhead_29 ?_
          refine r_iadd (z := ((p2 + v3) + 1)) hx hb dX12_freeAhead_30 rfl ?_
          refine k_cVi (wq_M τ ad) hx hb hml hC hLS hA hw hl.1 (mX12_onCell l D τ ad sA sV _ k1 ((p2 + v3) + 1) hk1 c6 M5 hM _ hv) kX12_onCell ml_X12_195 rfl (gM_1 τ ad M5) rfl rfl (Nat.le_of_ble_eq_true rfl) (rm_ok (by decide) (by decide)) ⟨Nat.zero_le _, Nat.zero_le _⟩ dX12_freeAhead_31 (fun x8 M8 H locs g8 hM hv hw => ?_)
          have hv := hv g8
          refine r_if_ge (tgt := 43) hx hb dX12_freeAhead_34 (by decide) g8  (fun b9 => ?_) (fun b9 => ?_)
          · have hv := hv.1 b9
            refine lv_iload_n hx hb dX12_freeAhead_43 rfl (lv_at hl 3 rfl) ?_
            obtain ⟨c10, hv⟩ := hv
            exact k_iret (wq_M τ ad) hx hb hr hlk hw hM c10 hv dX12_freeAhead_44
          · have hv := hv.2 b9
            refine r_iinc (v := (v3 + 1)) (lv' := [(3, .int (iI (v3 + 1))), (0, .ref (ad 1)), (1, .ref (ad k1)), (2, .int (iI p2))]) hx hb dX12_freeAhead_37 hl (k := 3) rfl rfl (by decide) rfl (fun ls hl => ?_)
            refine lv_goto (tgt := 2) hx hb dX12_freeAhead_40 (by decide) ?_
            exact ih (v3 + 1) M8 _ _ _ hM hv hw (lv_sub hl [1, 2, 3, 0] rfl)
  refine r_iconst hx hb dX12_freeAhead_0 ?_
  refine lv_istore_n (lv' := [(3, .int (iI 0)), (0, .ref (ad 1)), (1, .ref (ad k1)), (2, .int (iI p2))]) hx hb dX12_freeAhead_1 rfl hl (by decide) rfl (fun ls hl => ?_)
  obtain ⟨n11, hv⟩ := hv
  refine L2  n11 0 M _ _ _ hM hv hw (lv_sub hl [1, 2, 3, 0] rfl)
set_option maxHeartbeats 4000000 in
set_option maxRecDepth 100000 in
theorem mX12_isOn (l : Launch) (D : va_G) (τ : Nat → ClassId) (ad : Nat → Nat) (sA sV : Nat → Nat) (sz : Nat) (k0 : Nat) (p1 : Int) (hk0 : MI 38 k0) (hp1 : iR p1) (M : Mem) (hM : MR M) (Q : Int → Mem → Prop) (hv : qX12_isOn k0 p1 M Q) : Met l yX12_isOn (lw_w yX12_isOn cX12_isOn 2 (some .boolean)) (rmk 1 0 0) (kPc D τ sA sV (WM τ ad M) sz [.ref (ad k0), .int (iI p1)]) (gQi D (EQz (WM τ ad) MR Q) (va_A (WM τ ad M) sz)) 0 0 (va_A (WM τ ad M) sz) := by
  refine k_met (ret := (some .boolean)) (Qc := gQi D (EQz (WM τ ad) MR Q)) (by decide +kernel) (Nat.le_of_ble_eq_true rfl) ?_
  intro p e s m args below meth c A ls hx hb hml hr hlk hnm hC hLS hA hw hl
  have hC : cx D τ s m args RX12 := hC
  have hl : lv_has ls 2 [(0, .ref (ad k0)), (1, .int (iI p1))] := hl
  unfold qX12_isOn at hv
  refine lv_aload_n hx hb dX12_isOn_0 rfl (lv_at hl 0 rfl) ?_
  refine lv_iload_n hx hb dX12_isOn_1 rfl (lv_at hl 1 rfl) ?_
  obtain ⟨c1, hv⟩ := hv
  obtain ⟨c2, hv⟩ := hv
  refine r_iald hx hb hC hw k0 (gI_M hk0 τ ad M) c1 c2 (by decide) dX12_isOn_2 ?_
  refine r_top (fun x3 e3 => ?_)
  have g3 : iR x3 := by rw [e3]; exact hM.get hk0.pos _
  have hv := hv x3 e3 g3
  refine r_if_lt (tgt := 10) hx hb dX12_isOn_3 (by decide) g3  (fun b4 => ?_) (fun b4 => ?_)
  · have hv := hv.1 b4
    refine r_iconst hx hb dX12_isOn_10 ?_
    exact k_zret (wq_M τ ad) hx hb hr hlk hw hM (by decide) (by decide) hv dX12_isOn_11
  · have hv := hv.2 b4
    refine r_iconst hx hb dX12_isOn_6 ?_
    refine lv_goto (tgt := 11) hx hb dX12_isOn_7 (by decide) ?_
    exact k_zret (wq_M τ ad) hx hb hr hlk hw hM (by decide) (by decide) hv dX12_isOn_11
set_option maxHeartbeats 4000000 in
set_option maxRecDepth 100000 in
theorem mX12_worked (l : Launch) (D : va_G) (τ : Nat → ClassId) (ad : Nat → Nat) (sA sV : Nat → Nat) (sz : Nat) (p0 : Int) (p1 : Int) (p2 : Int) (hp0 : iR p0) (hp1 : iR p1) (hp2 : iR p2) (M : Mem) (hM : MR M) (Q : Int → Mem → Prop) (hv : qX12_worked p0 p1 p2 M Q) : Met l yX12_worked (lw_w yX12_worked cX12_worked 3 (some .int)) (rmk 2 0 0) (kPc D τ sA sV (WM τ ad M) sz [.int (iI p0), .int (iI p1), .int (iI p2)]) (gQi D (EQi (WM τ ad) MR Q) (va_A (WM τ ad M) sz)) 0 0 (va_A (WM τ ad M) sz) := by
  refine k_met (ret := (some .int)) (Qc := gQi D (EQi (WM τ ad) MR Q)) (by decide +kernel) (Nat.le_of_ble_eq_true rfl) ?_
  intro p e s m args below meth c A ls hx hb hml hr hlk hnm hC hLS hA hw hl
  have hC : cx D τ s m args RX12 := hC
  have hl : lv_has ls 3 [(0, .int (iI p0)), (1, .int (iI p1)), (2, .int (iI p2))] := hl
  unfold qX12_worked at hv
  have J50 : ∀ (t0 : Int) (M : Mem) (H : Heap) (locs : List Loc) (ls : Array Slot), MR M → qX12_worked_J50 p0 p1 p2 Q t0 M → wS D A s.heap (WM τ ad M) H locs → lv_has ls 3 [] → W p l e (rmk 2 0 0) s m args below meth c H locs 0 0 (MQ below (gQi D (EQi (WM τ ad) MR Q) A) args s 0 0 A) (F0 m 50 ls [.int (iI t0)]) := by
    intro t0 M H locs ls hM hv hw hl
    unfold qX12_worked_J50 at hv
    obtain ⟨c3, hv⟩ := hv
    refine k_cSi (wq_M τ ad) hx hb hml hC hLS hA hw hl.1 (mX12_flag l D τ ad sA sV _ t0 c3 M hM _ hv) kX12_flag ml_X12_154 rfl rfl (Nat.le_of_ble_eq_true rfl) (rm_ok (by decide) (by decide)) ⟨Nat.zero_le _, Nat.zero_le _⟩ dX12_worked_50 (fun x4 M4 H locs g4 hM hv hw => ?_)
    have hv := hv g4
    exact k_iret (wq_M τ ad) hx hb hr hlk hw hM g4 hv dX12_worked_53
  have J64 : ∀ (t0 : Int) (M : Mem) (H : Heap) (locs : List Loc) (ls : Array Slot), MR M → qX12_worked_J64 p0 p1 p2 Q t0 M → wS D A s.heap (WM τ ad M) H locs → lv_has ls 3 [] → W p l e (rmk 2 0 0) s m args below meth c H locs 0 0 (MQ below (gQi D (EQi (WM τ ad) MR Q) A) args s 0 0 A) (F0 m 64 ls [.int (iI t0)]) := by
    intro t0 M H locs ls hM hv hw hl
    unfold qX12_worked_J64 at hv
    obtain ⟨c6, hv⟩ := hv
    refine k_cSi (wq_M τ ad) hx hb hml hC hLS hA hw hl.1 (mX12_flag l D τ ad sA sV _ t0 c6 M hM _ hv) kX12_flag ml_X12_154 rfl rfl (Nat.le_of_ble_eq_true rfl) (rm_ok (by decide) (by decide)) ⟨Nat.zero_le _, Nat.zero_le _⟩ dX12_worked_64 (fun x7 M7 H locs g7 hM hv hw => ?_)
    have hv := hv g7
    exact k_iret (wq_M τ ad) hx hb hr hlk hw hM g7 hv dX12_worked_67
  have J78 : ∀ (t0 : Int) (M : Mem) (H : Heap) (locs : List Loc) (ls : Array Slot), MR M → qX12_worked_J78 p0 p1 p2 Q t0 M → wS D A s.heap (WM τ ad M) H locs → lv_has ls 3 [] → W p l e (rmk 2 0 0) s m args below meth c H locs 0 0 (MQ below (gQi D (EQi (WM τ ad) MR Q) A) args s 0 0 A) (F0 m 78 ls [.int (iI t0)]) := by
    intro t0 M H locs ls hM hv hw hl
    unfold qX12_worked_J78 at hv
    obtain ⟨c9, hv⟩ := hv
    refine k_cSi (wq_M τ ad) hx hb hml hC hLS hA hw hl.1 (mX12_flag l D τ ad sA sV _ t0 c9 M hM _ hv) kX12_flag ml_X12_154 rfl rfl (Nat.le_of_ble_eq_true rfl) (rm_ok (by decide) (by decide)) ⟨Nat.zero_le _, Nat.zero_le _⟩ dX12_worked_78 (fun x10 M10 H locs g10 hM hv hw => ?_)
    have hv := hv g10
    exact k_iret (wq_M τ ad) hx hb hr hlk hw hM g10 hv dX12_worked_81
  refine lv_iload_n hx hb dX12_worked_0 rfl (lv_at hl 0 rfl) ?_
  rcases (show p0 = 0 ∨ p0 = 1 ∨ p0 = 2 ∨ p0 = 3 ∨ p0 = 4 ∨ p0 = 5 ∨ (p0 < 0 ∨ 5 < p0) by omega) with b1 | b1 | b1 | b1 | b1 | b1 | b1
  · refine r_tblI (tgt := 40) hx hb dX12_worked_1 hp0 (by omega) (by omega) (by rw [b1]; first | done | rfl) (by decide) ?_
    have hv := hv.1 b1
    refine lv_iload_n hx hb dX12_worked_40 rfl (lv_at hl 1 rfl) ?_
    refine lv_iload_n hx hb dX12_worked_41 rfl (lv_at hl 2 rfl) ?_
    refine r_icmp_ge (tgt := 49) hx hb dX12_worked_42 (by decide) hp1 hp2 (fun b2 => ?_) (fun b2 => ?_)
    · have hv := hv.1 b2
      refine r_iconst hx hb dX12_worked_49 ?_
      exact J50 0 M _ _ _ hM hv hw (lv_sub hl [] rfl)
    · have hv := hv.2 b2
      refine r_iconst hx hb dX12_worked_45 ?_
      refine lv_goto (tgt := 50) hx hb dX12_worked_46 (by decide) ?_
      exact J50 1 M _ _ _ hM hv hw (lv_sub hl [] rfl)
  · refine r_tblI (tgt := 54) hx hb dX12_worked_1 hp0 (by omega) (by omega) (by rw [b1]; first | done | rfl) (by decide) ?_
    have hv := hv.2.1 b1
    refine lv_iload_n hx hb dX12_worked_54 rfl (lv_at hl 1 rfl) ?_
    refine lv_iload_n hx hb dX12_worked_55 rfl (lv_at hl 2 rfl) ?_
    refine r_icmp_le (tgt := 63) hx hb dX12_worked_56 (by decide) hp1 hp2 (fun b5 => ?_) (fun b5 => ?_)
    · have hv := hv.1 b5
      refine r_iconst hx hb dX12_worked_63 ?_
      exact J64 0 M _ _ _ hM hv hw (lv_sub hl [] rfl)
    · have hv := hv.2 b5
      refine r_iconst hx hb dX12_worked_59 ?_
      refine lv_goto (tgt := 64) hx hb dX12_worked_60 (by decide) ?_
      exact J64 1 M _ _ _ hM hv hw (lv_sub hl [] rfl)
  · refine r_tblI (tgt := 68) hx hb dX12_worked_1 hp0 (by omega) (by omega) (by rw [b1]; first | done | rfl) (by decide) ?_
    have hv := hv.2.2.1 b1
    refine lv_iload_n hx hb dX12_worked_68 rfl (lv_at hl 1 rfl) ?_
    refine lv_iload_n hx hb dX12_worked_69 rfl (lv_at hl 2 rfl) ?_
    refine r_icmp_ne (tgt := 77) hx hb dX12_worked_70 (by decide) hp1 hp2 (fun b8 => ?_) (fun b8 => ?_)
    · have hv := hv.1 b8
      refine r_iconst hx hb dX12_worked_77 ?_
      exact J78 0 M _ _ _ hM hv hw (lv_sub hl [] rfl)
    · have hv := hv.2 b8
      refine r_iconst hx hb dX12_worked_73 ?_
      refine lv_goto (tgt := 78) hx hb dX12_worked_74 (by decide) ?_
      exact J78 1 M _ _ _ hM hv hw (lv_sub hl [] rfl)
  · refine r_tblI (tgt := 82) hx hb dX12_worked_1 hp0 (by omega) (by omega) (by rw [b1]; first | done | rfl) (by decide) ?_
    have hv := hv.2.2.2.1 b1
    refine lv_iload_n hx hb dX12_worked_82 rfl (lv_at hl 1 rfl) ?_
    refine lv_iload_n hx hb dX12_worked_83 rfl (lv_at hl 2 rfl) ?_
    refine r_iaddW hx hb dX12_worked_84 (fun x11 e11 g11 => ?_)
    have hv := hv x11 e11 g11
    exact k_iret (wq_M τ ad) hx hb hr hlk hw hM g11 hv dX12_worked_85
  · refine r_tblI (tgt := 86) hx hb dX12_worked_1 hp0 (by omega) (by omega) (by rw [b1]; first | done | rfl) (by decide) ?_
    have hv := hv.2.2.2.2.1 b1
    refine lv_iload_n hx hb dX12_worked_86 rfl (lv_at hl 1 rfl) ?_
    refine lv_iload_n hx hb dX12_worked_87 rfl (lv_at hl 2 rfl) ?_
    refine r_isubW hx hb dX12_worked_88 (fun x12 e12 g12 => ?_)
    have hv := hv x12 e12 g12
    exact k_iret (wq_M τ ad) hx hb hr hlk hw hM g12 hv dX12_worked_89
  · refine r_tblI (tgt := 90) hx hb dX12_worked_1 hp0 (by omega) (by omega) (by rw [b1]; first | done | rfl) (by decide) ?_
    have hv := hv.2.2.2.2.2.1 b1
    refine lv_iload_n hx hb dX12_worked_90 rfl (lv_at hl 1 rfl) ?_
    refine lv_iload_n hx hb dX12_worked_91 rfl (lv_at hl 2 rfl) ?_
    refine r_imulW hx hb dX12_worked_92 (fun x13 e13 g13 => ?_)
    have hv := hv x13 e13 g13
    exact k_iret (wq_M τ ad) hx hb hr hlk hw hM g13 hv dX12_worked_93
  · refine r_tblO (tgt := 94) hx hb dX12_worked_1 hp0 b1 (by decide) ?_
    have hv := hv.2.2.2.2.2.2 b1
    refine lv_iload_n hx hb dX12_worked_94 rfl (lv_at hl 2 rfl) ?_
    refine r_if_ne (tgt := 102) hx hb dX12_worked_95 (by decide) hp2  (fun b14 => ?_) (fun b14 => ?_)
    · have hv := hv.1 b14
      refine lv_iload_n hx hb dX12_worked_102 rfl (lv_at hl 1 rfl) ?_
      refine lv_iload_n hx hb dX12_worked_103 rfl (lv_at hl 2 rfl) ?_
      obtain ⟨c15, hv⟩ := hv
      refine r_idivF hx hb dX12_worked_104 hp2 c15 (fun x16 e16 g16 => ?_)
      have hv := hv x16 e16 g16
      exact k_iret (wq_M τ ad) hx hb hr hlk hw hM g16 hv dX12_worked_105
    · have hv := hv.2 b14
      refine r_iconst hx hb dX12_worked_98 ?_
      refine lv_goto (tgt := 105) hx hb dX12_worked_99 (by decide) ?_
      exact k_iret (wq_M τ ad) hx hb hr hlk hw hM (by decide) hv dX12_worked_105
set_option maxHeartbeats 4000000 in
set_option maxRecDepth 100000 in
theorem mX12_ruled (l : Launch) (D : va_G) (τ : Nat → ClassId) (ad : Nat → Nat) (sA sV : Nat → Nat) (sz : Nat)   (M : Mem) (hM : MR M) (Q : Int → Mem → Prop) (hv : qX12_ruled  M Q) : Met l yX12_ruled (lw_w yX12_ruled cX12_ruled 4 (some .int)) (rmk 3 0 0) (kPc D τ sA sV (WM τ ad M) sz [.ref (ad 1)]) (gQi D (EQi (WM τ ad) MR Q) (va_A (WM τ ad M) sz)) 0 0 (va_A (WM τ ad M) sz) := by
  refine k_met (ret := (some .int)) (Qc := gQi D (EQi (WM τ ad) MR Q)) (by decide +kernel) (Nat.le_of_ble_eq_true rfl) ?_
  intro p e s m args below meth c A ls hx hb hml hr hlk hnm hC hLS hA hw hl
  have hC : cx D τ s m args RX12 := hC
  have hl : lv_has ls 4 [(0, .ref (ad 1))] := hl
  unfold qX12_ruled at hv
  have J115 : ∀ (R : Int → Int → Mem → Prop), (∀ (v1 : Int) (v2 : Int) (M : Mem) (H : Heap) (locs : List Loc) (ls : Array Slot), MR M → R v1 v2 M → wS D A s.heap (WM τ ad M) H locs → lv_has ls 4 [(0, .ref (ad 1)), (1, .int (iI v1)), (2, .int (iI v2))] → W p l e (rmk 3 0 0) s m args below meth c H locs 0 0 (MQ below (gQi D (EQi (WM τ ad) MR Q) A) args s 0 0 A) (F0 m 4 ls [])) → ∀ (X125 : Mem → Prop), (∀  (M : Mem) (H : Heap) (locs : List Loc) (ls : Array Slot), MR M → X125  M → wS D A s.heap (WM τ ad M) H locs → lv_has ls 4 [(0, .ref (ad 1))] → W p l e (rmk 3 0 0) s m args below meth c H locs 0 0 (MQ below (gQi D (EQi (WM τ ad) MR Q) A) args s 0 0 A) (F0 m 125 ls [])) → ∀ (v1 : Int) (v2 : Int) (t0 : Int) (t1 : Int) (M : Mem) (H : Heap) (locs : List Loc) (ls : Array Slot), MR M → qX12_ruled_J115  R X125 Q v1 v2 t0 t1 M → wS D A s.heap (WM τ ad M) H locs → lv_has ls 4 [(0, .ref (ad 1)), (1, .int (iI v1)), (2, .int (iI v2))] → W p l e (rmk 3 0 0) s m args below meth c H locs 0 0 (MQ below (gQi D (EQi (WM τ ad) MR Q) A) args s 0 0 A) (F0 m 115 ls [.int (iI t0), .int (iI t1), .ref (ad 13)]) := by
    intro R hR X125 hX125 v1 v2 t0 t1 M H locs ls hM hv hw hl
    unfold qX12_ruled_J115 at hv
    obtain ⟨c10, hv⟩ := hv
    obtain ⟨c11, hv⟩ := hv
    obtain ⟨c12, hv⟩ := hv
    obtain ⟨M13, e13⟩ : ∃ M13 : Mem, M13 = up2 M 13 t1 t0 := ⟨_, rfl⟩
    have hv := hv M13 e13
    refine r_iast (ws' := (WM τ ad M13)) hx hb hC hw 13 (gI_M aM_13 τ ad M) c10 c11 (by decide) (by rw [e13]; exact sI_M aM_13 τ ad M _ _) dX12_ruled_115 (fun H locs hw => ?_)
    have hM : MR M13 := by rw [e13]; exact hM.put aM_13.pos c12
    refine r_iinc (v := (v1 + 1)) (lv' := [(1, .int (iI (v1 + 1))), (0, .ref (ad 1)), (2, .int (iI v2))]) hx hb dX12_ruled_116 hl (k := 1) rfl rfl (by decide) rfl (fun ls hl => ?_)
    refine r_iinc (v := (v2 + 1)) (lv' := [(2, .int (iI (v2 + 1))), (1, .int (iI (v1 + 1))), (0, .ref (ad 1))]) hx hb dX12_ruled_119 hl (k := 2) rfl rfl (by decide) rfl (fun ls hl => ?_)
    refine lv_goto (tgt := 4) hx hb dX12_ruled_122 (by decide) ?_
    exact hR (v1 + 1) (v2 + 1) M13 _ _ _ hM hv hw (lv_sub hl [2, 1, 0] rfl)
  have L4 : ∀ (X125 : Mem → Prop), (∀  (M : Mem) (H : Heap) (locs : List Loc) (ls : Array Slot), MR M → X125  M → wS D A s.heap (WM τ ad M) H locs → lv_has ls 4 [(0, .ref (ad 1))] → W p l e (rmk 3 0 0) s m args below meth c H locs 0 0 (MQ below (gQi D (EQi (WM τ ad) MR Q) A) args s 0 0 A) (F0 m 125 ls [])) → ∀ (n : Nat) (v1 : Int) (v2 : Int) (M : Mem) (H : Heap) (locs : List Loc) (ls : Array Slot), MR M → qX12_ruled_L4  X125 Q n v1 v2 M → wS D A s.heap (WM τ ad M) H locs → lv_has ls 4 [(0, .ref (ad 1)), (1, .int (iI v1)), (2, .int (iI v2))] → W p l e (rmk 3 0 0) s m args below meth c H locs 0 0 (MQ below (gQi D (EQi (WM τ ad) MR Q) A) args s 0 0 A) (F0 m 4 ls []) := by
    intro X125 hX125 n
    induction n with
    | zero => intro v1 v2 M H locs ls hM hv; rw [qX12_ruled_L4] at hv; exact hv.elim
    | succ n ih =>
      intro v1 v2 M H locs ls hM hv hw hl
      rw [qX12_ruled_L4] at hv
      refine lv_iload_n hx hb dX12_ruled_4 rfl (lv_at hl 2 rfl) ?_
      refine lv_aload_n hx hb dX12_ruled_5 rfl (lv_at hl 0 rfl) ?_
      refine gf_X12_252 hx hb hC hw 1 (gM_1 τ ad M) rfl dX12_ruled_6 ?_
      refine r_top (fun x1 e1 => ?_)
      have g1 : iR x1 := by rw [e1]; exact hM.get (by decide) _
      have hv := hv x1 e1 g1
      obtain ⟨c2, hv⟩ := hv
      refine r_icmp_ge (tgt := 125) hx hb dX12_ruled_9 (by decide) c2 g1 (fun b3 => ?_) (fun b3 => ?_)
      · have hv := hv.1 b3
        exact hX125  M _ _ _ hM hv hw (lv_sub hl [0] rfl)
      · have hv := hv.2 b3
        refine lv_aload_n hx hb dX12_ruled_12 rfl (lv_at hl 0 rfl) ?_
        refine gf_X12_49 hx hb hC hw 1 (gM_1 τ ad M) rfl dX12_ruled_13 ?_
        refine lv_iload_n hx hb dX12_ruled_16 rfl (lv_at hl 2 rfl) ?_
        obtain ⟨c4, hv⟩ := hv
        obtain ⟨c5, hv⟩ := hv
        refine r_iald hx hb hC hw 11 (gI_M aM_11 τ ad M) c4 c5 (by decide) dX12_ruled_17 ?_
        refine r_top (fun x6 e6 => ?_)
        have g6 : iR x6 := by rw [e6]; exact hM.get aM_11.pos _
        have hv := hv x6 e6 g6
        refine lv_istore_n (lv' := [(3, .int (iI x6)), (0, .ref (ad 1)), (1, .int (iI v1)), (2, .int (iI v2))]) hx hb dX12_ruled_18 rfl hl (by decide) rfl (fun ls hl => ?_)
        refine lv_iload_n hx hb dX12_ruled_19 rfl (lv_at hl 0 rfl) ?_
        refine r_sipush hx hb dX12_ruled_20 (by decide +kernel) ?_
        refine r_icmp_ne (tgt := 46) hx hb dX12_ruled_23 (by decide) g6 (by decide) (fun b7 => ?_) (fun b7 => ?_)
        · have hv := hv.1 b7
          refine lv_iload_n hx hb dX12_ruled_46 rfl (lv_at hl 0 rfl) ?_
          refine r_sipush hx hb dX12_ruled_47 (by decide +kernel) ?_
          refine r_icmp_lt (tgt := 89) hx hb dX12_ruled_50 (by decide) g6 (by decide) (fun b8 => ?_) (fun b8 => ?_)
          · have hv := hv.1 b8
            refine lv_aload_n hx hb dX12_ruled_89 rfl (lv_at hl 1 rfl) ?_
            refine gf_X12_55 hx hb hC hw 1 (gM_1 τ ad M) rfl dX12_ruled_90 ?_
            refine lv_iload_n hx hb dX12_ruled_93 rfl (lv_at hl 2 rfl) ?_
            refine lv_iload_n hx hb dX12_ruled_94 rfl (lv_at hl 0 rfl) ?_
            refine r_sipush hx hb dX12_ruled_95 (by decide +kernel) ?_
            refine r_icmp_lt (tgt := 114) hx hb dX12_ruled_98 (by decide) g6 (by decide) (fun b9 => ?_) (fun b9 => ?_)
            · have hv := hv.1 b9
              refine lv_iload_n hx hb dX12_ruled_114 rfl (lv_at hl 0 rfl) ?_
              exact J115 _ ih _ hX125 v1 v2 x6 v1 M _ _ _ hM hv hw (lv_sub hl [1, 2, 3] rfl)
            · have hv := hv.2 b9
              refine lv_aload_n hx hb dX12_ruled_101 rfl (lv_at hl 1 rfl) ?_
              refine gf_X12_58 hx hb hC hw 1 (gM_1 τ ad M) rfl dX12_ruled_102 ?_
              refine lv_iload_n hx hb dX12_ruled_105 rfl (lv_at hl 0 rfl) ?_
              refine r_sipush hx hb dX12_ruled_106 (by decide +kernel) ?_
              refine r_isubW hx hb dX12_ruled_109 (fun x14 e14 g14 => ?_)
              have hv := hv x14 e14 g14
              obtain ⟨c15, hv⟩ := hv
              obtain ⟨c16, hv⟩ := hv
              refine r_iald hx hb hC hw 14 (gI_M aM_14 τ ad M) c15 c16 (by decide) dX12_ruled_110 ?_
              refine r_top (fun x17 e17 => ?_)
              have g17 : iR x17 := by rw [e17]; exact hM.get aM_14.pos _
              have hv := hv x17 e17 g17
              refine lv_goto (tgt := 115) hx hb dX12_ruled_111 (by decide) ?_
              exact J115 _ ih _ hX125 v1 v2 x17 v1 M _ _ _ hM hv hw (lv_sub hl [1, 2, 3] rfl)
          · have hv := hv.2 b8
            refine r_iinc (v := (v1 + (-1))) (lv' := [(1, .int (iI (v1 + (-1)))), (3, .int (iI x6)), (0, .ref (ad 1)), (2, .int (iI v2))]) hx hb dX12_ruled_53 hl (k := 2) rfl rfl (by decide) rfl (fun ls hl => ?_)
            refine lv_aload_n hx hb dX12_ruled_56 rfl (lv_at hl 2 rfl) ?_
            refine gf_X12_55 hx hb hC hw 1 (gM_1 τ ad M) rfl dX12_ruled_57 ?_
            refine lv_iload_n hx hb dX12_ruled_60 rfl (lv_at hl 0 rfl) ?_
            refine r_iconst hx hb dX12_ruled_61 ?_
            refine r_isubW hx hb dX12_ruled_62 (fun x18 e18 g18 => ?_)
            have hv := hv x18 e18 g18
            refine lv_iload_n hx hb dX12_ruled_63 rfl (lv_at hl 1 rfl) ?_
            refine r_sipush hx hb dX12_ruled_64 (by decide +kernel) ?_
            refine r_isubW hx hb dX12_ruled_67 (fun x19 e19 g19 => ?_)
            have hv := hv x19 e19 g19
            refine lv_aload_n hx hb dX12_ruled_68 rfl (lv_at hl 2 rfl) ?_
            refine gf_X12_55 hx hb hC hw 1 (gM_1 τ ad M) rfl dX12_ruled_69 ?_
            refine lv_iload_n hx hb dX12_ruled_72 rfl (lv_at hl 0 rfl) ?_
            refine r_iconst hx hb dX12_ruled_73 ?_
            refine r_isubW hx hb dX12_ruled_74 (fun x20 e20 g20 => ?_)
            have hv := hv x20 e20 g20
            obtain ⟨c21, hv⟩ := hv
            obtain ⟨c22, hv⟩ := hv
            refine r_iald hx hb hC hw 13 (gI_M aM_13 τ ad M) c21 c22 (by decide) dX12_ruled_75 ?_
            refine r_top (fun x23 e23 => ?_)
            have g23 : iR x23 := by rw [e23]; exact hM.get aM_13.pos _
            have hv := hv x23 e23 g23
            refine lv_aload_n hx hb dX12_ruled_76 rfl (lv_at hl 2 rfl) ?_
            refine gf_X12_55 hx hb hC hw 1 (gM_1 τ ad M) rfl dX12_ruled_77 ?_
            refine lv_iload_n hx hb dX12_ruled_80 rfl (lv_at hl 0 rfl) ?_
            obtain ⟨c24, hv⟩ := hv
            obtain ⟨c25, hv⟩ := hv
            refine r_iald hx hb hC hw 13 (gI_M aM_13 τ ad M) c24 c25 (by decide) dX12_ruled_81 ?_
            refine r_top (fun x26 e26 => ?_)
            have g26 : iR x26 := by rw [e26]; exact hM.get aM_13.pos _
            have hv := hv x26 e26 g26
            refine k_cSi (wq_M τ ad) hx hb hml hC hLS hA hw hl.1 (mX12_worked l D τ ad sA sV _ x19 x23 x26 g19 g23 g26 M hM _ hv) kX12_worked ml_X12_262 rfl rfl (Nat.le_of_ble_eq_true rfl) (rm_ok (by decide) (by decide)) ⟨Nat.zero_le _, Nat.zero_le _⟩ dX12_ruled_82 (fun x27 M27 H locs g27 hM hv hw => ?_)
            have hv := hv g27
            obtain ⟨c28, hv⟩ := hv
            obtain ⟨c29, hv⟩ := hv
            obtain ⟨M30, e30⟩ : ∃ M30 : Mem, M30 = up2 M27 13 x18 x27 := ⟨_, rfl⟩
            have hv := hv M30 e30
            refine r_iast (ws' := (WM τ ad M30)) hx hb hC hw 13 (gI_M aM_13 τ ad M27) c28 c29 (by decide) (by rw [e30]; exact sI_M aM_13 τ ad M27 _ _) dX12_ruled_85 (fun H locs hw => ?_)
            have hM : MR M30 := by rw [e30]; exact hM.put aM_13.pos g27
            refine lv_goto (tgt := 119) hx hb dX12_ruled_86 (by decide) ?_
            refine r_iinc (v := (v2 + 1)) (lv' := [(2, .int (iI (v2 + 1))), (1, .int (iI (v1 + (-1)))), (3, .int (iI x6)), (0, .ref (ad 1))]) hx hb dX12_ruled_119 hl (k := 3) rfl rfl (by decide) rfl (fun ls hl => ?_)
            refine lv_goto (tgt := 4) hx hb dX12_ruled_122 (by decide) ?_
            exact ih (v1 + (-1)) (v2 + 1) M30 _ _ _ hM hv hw (lv_sub hl [3, 1, 0] rfl)
        · have hv := hv.2 b7
          refine lv_aload_n hx hb dX12_ruled_26 rfl (lv_at hl 1 rfl) ?_
          refine gf_X12_55 hx hb hC hw 1 (gM_1 τ ad M) rfl dX12_ruled_27 ?_
          refine lv_iload_n hx hb dX12_ruled_30 rfl (lv_at hl 2 rfl) ?_
          refine r_iconst hx hb dX12_ruled_31 ?_
          refine r_isubW hx hb dX12_ruled_32 (fun x31 e31 g31 => ?_)
          have hv := hv x31 e31 g31
          refine lv_aload_n hx hb dX12_ruled_33 rfl (lv_at hl 1 rfl) ?_
          refine gf_X12_55 hx hb hC hw 1 (gM_1 τ ad M) rfl dX12_ruled_34 ?_
          refine lv_iload_n hx hb dX12_ruled_37 rfl (lv_at hl 2 rfl) ?_
          refine r_iconst hx hb dX12_ruled_38 ?_
          refine r_isubW hx hb dX12_ruled_39 (fun x32 e32 g32 => ?_)
          have hv := hv x32 e32 g32
          obtain ⟨c33, hv⟩ := hv
          obtain ⟨c34, hv⟩ := hv
          refine r_iald hx hb hC hw 13 (gI_M aM_13 τ ad M) c33 c34 (by decide) dX12_ruled_40 ?_
          refine r_top (fun x35 e35 => ?_)
          have g35 : iR x35 := by rw [e35]; exact hM.get aM_13.pos _
          have hv := hv x35 e35 g35
          refine r_inegW hx hb dX12_ruled_41 (fun x36 e36 g36 => ?_)
          have hv := hv x36 e36 g36
          obtain ⟨c37, hv⟩ := hv
          obtain ⟨c38, hv⟩ := hv
          obtain ⟨M39, e39⟩ : ∃ M39 : Mem, M39 = up2 M 13 x31 x36 := ⟨_, rfl⟩
          have hv := hv M39 e39
          refine r_iast (ws' := (WM τ ad M39)) hx hb hC hw 13 (gI_M aM_13 τ ad M) c37 c38 (by decide) (by rw [e39]; exact sI_M aM_13 τ ad M _ _) dX12_ruled_42 (fun H locs hw => ?_)
          have hM : MR M39 := by rw [e39]; exact hM.put aM_13.pos g36
          refine lv_goto (tgt := 119) hx hb dX12_ruled_43 (by decide) ?_
          refine r_iinc (v := (v2 + 1)) (lv' := [(2, .int (iI (v2 + 1))), (3, .int (iI x6)), (0, .ref (ad 1)), (1, .int (iI v1))]) hx hb dX12_ruled_119 hl (k := 3) rfl rfl (by decide) rfl (fun ls hl => ?_)
          refine lv_goto (tgt := 4) hx hb dX12_ruled_122 (by decide) ?_
          exact ih v1 (v2 + 1) M39 _ _ _ hM hv hw (lv_sub hl [2, 3, 0] rfl)
  have J148 : ∀ (t0 : Int) (t1 : Int) (M : Mem) (H : Heap) (locs : List Loc) (ls : Array Slot), MR M → qX12_ruled_J148  Q t0 t1 M → wS D A s.heap (WM τ ad M) H locs → lv_has ls 4 [] → W p l e (rmk 3 0 0) s m args below meth c H locs 0 0 (MQ below (gQi D (EQi (WM τ ad) MR Q) A) args s 0 0 A) (F0 m 148 ls [.int (iI t0), .int (iI t1)]) := by
    intro t0 t1 M H locs ls hM hv hw hl
    unfold qX12_ruled_J148 at hv
    obtain ⟨c46, hv⟩ := hv
    refine k_cSi (wq_M τ ad) hx hb hml hC hLS hA hw hl.1 (mX12_flag l D τ ad sA sV _ t0 c46 M hM _ hv) kX12_flag ml_X12_154 rfl rfl (Nat.le_of_ble_eq_true rfl) (rm_ok (by decide) (by decide)) ⟨Nat.zero_le _, Nat.zero_le _⟩ dX12_ruled_148 (fun x47 M47 H locs g47 hM hv hw => ?_)
    have hv := hv g47
    refine r_iaddW hx hb dX12_ruled_151 (fun x48 e48 g48 => ?_)
    have hv := hv x48 e48 g48
    refine lv_goto (tgt := 161) hx hb dX12_ruled_152 (by decide) ?_
    exact k_iret (wq_M τ ad) hx hb hr hlk hw hM g48 hv dX12_ruled_161
  refine r_iconst hx hb dX12_ruled_0 ?_
  refine lv_istore_n (lv' := [(1, .int (iI 0)), (0, .ref (ad 1))]) hx hb dX12_ruled_1 rfl hl (by decide) rfl (fun ls hl => ?_)
  refine r_iconst hx hb dX12_ruled_2 ?_
  refine lv_istore_n (lv' := [(2, .int (iI 0)), (1, .int (iI 0)), (0, .ref (ad 1))]) hx hb dX12_ruled_3 rfl hl (by decide) rfl (fun ls hl => ?_)
  obtain ⟨n40, hv⟩ := hv
  refine L4 _ ?_ n40 0 0 M _ _ _ hM hv hw (lv_sub hl [2, 1, 0] rfl)
  · intro  M H locs ls hM hv hw hl
    refine lv_aload_n hx hb dX12_ruled_125 rfl (lv_at hl 0 rfl) ?_
    refine gf_X12_252 hx hb hC hw 1 (gM_1 τ ad M) rfl dX12_ruled_126 ?_
    refine r_top (fun x41 e41 => ?_)
    have g41 : iR x41 := by rw [e41]; exact hM.get (by decide) _
    have hv := hv x41 e41 g41
    refine r_if_ne (tgt := 155) hx hb dX12_ruled_129 (by decide) g41  (fun b42 => ?_) (fun b42 => ?_)
    · have hv := hv.1 b42
      refine lv_aload_n hx hb dX12_ruled_155 rfl (lv_at hl 0 rfl) ?_
      refine gf_X12_55 hx hb hC hw 1 (gM_1 τ ad M) rfl dX12_ruled_156 ?_
      refine r_iconst hx hb dX12_ruled_159 ?_
      refine r_iald hx hb hC hw 13 (gI_M aM_13 τ ad M) (by decide) (by decide) (by decide) dX12_ruled_160 ?_
      refine r_top (fun x43 e43 => ?_)
      have g43 : iR x43 := by rw [e43]; exact hM.get aM_13.pos _
      have hv := hv x43 e43 g43
      exact k_iret (wq_M τ ad) hx hb hr hlk hw hM g43 hv dX12_ruled_161
    · have hv := hv.2 b42
      refine r_iconst hx hb dX12_ruled_132 ?_
      refine lv_aload_n hx hb dX12_ruled_133 rfl (lv_at hl 0 rfl) ?_
      refine gf_X12_58 hx hb hC hw 1 (gM_1 τ ad M) rfl dX12_ruled_134 ?_
      refine r_iconst hx hb dX12_ruled_137 ?_
      refine r_iald hx hb hC hw 14 (gI_M aM_14 τ ad M) (by decide) (by decide) (by decide) dX12_ruled_138 ?_
      refine r_top (fun x44 e44 => ?_)
      have g44 : iR x44 := by rw [e44]; exact hM.get aM_14.pos _
      have hv := hv x44 e44 g44
      refine r_iconst hx hb dX12_ruled_139 ?_
      refine r_icmp_le (tgt := 147) hx hb dX12_ruled_140 (by decide) g44 (by decide) (fun b45 => ?_) (fun b45 => ?_)
      · have hv := hv.1 b45
        refine r_iconst hx hb dX12_ruled_147 ?_
        exact J148 0 1 M _ _ _ hM hv hw (lv_sub hl [] rfl)
      · have hv := hv.2 b45
        refine r_iconst hx hb dX12_ruled_143 ?_
        refine lv_goto (tgt := 148) hx hb dX12_ruled_144 (by decide) ?_
        exact J148 1 1 M _ _ _ hM hv hw (lv_sub hl [] rfl)
set_option maxHeartbeats 4000000 in
set_option maxRecDepth 100000 in
theorem mX12_weatherOn (l : Launch) (D : va_G) (τ : Nat → ClassId) (ad : Nat → Nat) (sA sV : Nat → Nat) (sz : Nat) (p1 : Int) (hp1 : iR p1) (M : Mem) (hM : MR M) (Q : Int → Mem → Prop) (hv : qX12_weatherOn p1 M Q) : Met l yX12_weatherOn (lw_w yX12_weatherOn cX12_weatherOn 2 (some .int)) (rmk 1 0 0) (kPc D τ sA sV (WM τ ad M) sz [.ref (ad 1), .int (iI p1)]) (gQi D (EQi (WM τ ad) MR Q) (va_A (WM τ ad M) sz)) 0 0 (va_A (WM τ ad M) sz) := by
  refine k_met (ret := (some .int)) (Qc := gQi D (EQi (WM τ ad) MR Q)) (by decide +kernel) (Nat.le_of_ble_eq_true rfl) ?_
  intro p e s m args below meth c A ls hx hb hml hr hlk hnm hC hLS hA hw hl
  have hC : cx D τ s m args RX12 := hC
  have hl : lv_has ls 2 [(0, .ref (ad 1)), (1, .int (iI p1))] := hl
  unfold qX12_weatherOn at hv
  refine lv_aload_n hx hb dX12_weatherOn_0 rfl (lv_at hl 0 rfl) ?_
  refine gf_X12_28 hx hb hC hw 1 (gM_1 τ ad M) rfl dX12_weatherOn_1 ?_
  refine lv_iload_n hx hb dX12_weatherOn_4 rfl (lv_at hl 1 rfl) ?_
  refine lv_aload_n hx hb dX12_weatherOn_5 rfl (lv_at hl 0 rfl) ?_
  refine gf_X12_17 hx hb hC hw 1 (gM_1 τ ad M) rfl dX12_weatherOn_6 ?_
  refine r_top (fun x1 e1 => ?_)
  have g1 : iR x1 := by rw [e1]; exact hM.get (by decide) _
  have hv := hv x1 e1 g1
  obtain ⟨c2, hv⟩ := hv
  refine r_iremF hx hb dX12_weatherOn_9 g1 c2 (fun x3 e3 g3 => ?_)
  have hv := hv x3 e3 g3
  obtain ⟨c4, hv⟩ := hv
  obtain ⟨c5, hv⟩ := hv
  refine r_iald hx hb hC hw 4 (gI_M aM_4 τ ad M) c4 c5 (by decide) dX12_weatherOn_10 ?_
  refine r_top (fun x6 e6 => ?_)
  have g6 : iR x6 := by rw [e6]; exact hM.get aM_4.pos _
  have hv := hv x6 e6 g6
  exact k_iret (wq_M τ ad) hx hb hr hlk hw hM g6 hv dX12_weatherOn_11
set_option maxHeartbeats 4000000 in
set_option maxRecDepth 100000 in
theorem mX12_paceOf (l : Launch) (D : va_G) (τ : Nat → ClassId) (ad : Nat → Nat) (sA sV : Nat → Nat) (sz : Nat) (k1 : Nat) (p2 : Int) (hk1 : MI 38 k1) (hp2 : iR p2) (M : Mem) (hM : MR M) (Q : Int → Mem → Prop) (hv : qX12_paceOf k1 p2 M Q) : Met l yX12_paceOf (lw_w yX12_paceOf cX12_paceOf 3 (some .int)) (rmk 4 0 0) (kPc D τ sA sV (WM τ ad M) sz [.ref (ad 1), .ref (ad k1), .int (iI p2)]) (gQi D (EQi (WM τ ad) MR Q) (va_A (WM τ ad M) sz)) 0 0 (va_A (WM τ ad M) sz) := by
  refine k_met (ret := (some .int)) (Qc := gQi D (EQi (WM τ ad) MR Q)) (by decide +kernel) (Nat.le_of_ble_eq_true rfl) ?_
  intro p e s m args below meth c A ls hx hb hml hr hlk hnm hC hLS hA hw hl
  have hC : cx D τ s m args RX12 := hC
  have hl : lv_has ls 3 [(0, .ref (ad 1)), (1, .ref (ad k1)), (2, .int (iI p2))] := hl
  unfold qX12_paceOf at hv
  refine lv_aload_n hx hb dX12_paceOf_0 rfl (lv_at hl 1 rfl) ?_
  refine lv_iload_n hx hb dX12_paceOf_1 rfl (lv_at hl 2 rfl) ?_
  refine k_cSz (wq_M τ ad) hx hb hml hC hLS hA hw hl.1 (mX12_isOn l D τ ad sA sV _ k1 p2 hk1 hp2 M hM _ hv) kX12_isOn ml_X12_266 rfl rfl (Nat.le_of_ble_eq_true rfl) (rm_ok (by decide) (by decide)) ⟨Nat.zero_le _, Nat.zero_le _⟩ dX12_paceOf_2 (fun x1 M1 H locs g1 z1 hM hv hw => ?_)
  have hv := hv g1 z1
  refine r_if_ne (tgt := 10) hx hb dX12_paceOf_5 (by decide) g1  (fun b2 => ?_) (fun b2 => ?_)
  · have hv := hv.1 b2
    refine lv_aload_n hx hb dX12_paceOf_10 rfl (lv_at hl 0 rfl) ?_
    refine gf_X12_58 hx hb hC hw 1 (gM_1 τ ad M1) rfl dX12_paceOf_11 ?_
    refine r_iconst hx hb dX12_paceOf_14 ?_
    refine lv_aload_n hx hb dX12_paceOf_15 rfl (lv_at hl 1 rfl) ?_
    refine lv_iload_n hx hb dX12_paceOf_16 rfl (lv_at hl 2 rfl) ?_
    obtain ⟨c3, hv⟩ := hv
    obtain ⟨c4, hv⟩ := hv
    refine r_iald hx hb hC hw k1 (gI_M hk1 τ ad M1) c3 c4 (by decide) dX12_paceOf_17 ?_
    refine r_top (fun x5 e5 => ?_)
    have g5 : iR x5 := by rw [e5]; exact hM.get hk1.pos _
    have hv := hv x5 e5 g5
    obtain ⟨M6, e6⟩ : ∃ M6 : Mem, M6 = up2 M1 14 0 x5 := ⟨_, rfl⟩
    have hv := hv M6 e6
    refine r_iast (ws' := (WM τ ad M6)) hx hb hC hw 14 (gI_M aM_14 τ ad M1) (by decide) (by decide) (by decide) (by rw [e6]; exact sI_M aM_14 τ ad M1 _ _) dX12_paceOf_18 (fun H locs hw => ?_)
    have hM : MR M6 := by rw [e6]; exact hM.put aM_14.pos g5
    refine lv_aload_n hx hb dX12_paceOf_19 rfl (lv_at hl 0 rfl) ?_
    refine gf_X12_58 hx hb hC hw 1 (gM_1 τ ad M6) rfl dX12_paceOf_20 ?_
    refine r_iconst hx hb dX12_paceOf_23 ?_
    refine lv_aload_n hx hb dX12_paceOf_24 rfl (lv_at hl 0 rfl) ?_
    refine lv_aload_n hx hb dX12_paceOf_25 rfl (lv_at hl 1 rfl) ?_
    refine lv_aload_n hx hb dX12_paceOf_26 rfl (lv_at hl 1 rfl) ?_
    refine lv_iload_n hx hb dX12_paceOf_27 rfl (lv_at hl 2 rfl) ?_
    refine r_iald hx hb hC hw k1 (gI_M hk1 τ ad M6) c3 c4 (by decide) dX12_paceOf_28 ?_
    refine r_top (fun x7 e7 => ?_)
    have g7 : iR x7 := by rw [e7]; exact hM.get hk1.pos _
    have hv := hv x7 e7 g7
    refine k_cVi (wq_M τ ad) hx hb hml hC hLS hA hw hl.1 (mX12_freeAhead l D τ ad sA sV _ k1 x7 hk1 g7 M6 hM _ hv) kX12_freeAhead ml_X12_269 rfl (gM_1 τ ad M6) rfl rfl (Nat.le_of_ble_eq_true rfl) (rm_ok (by decide) (by decide)) ⟨Nat.zero_le _, Nat.zero_le _⟩ dX12_paceOf_29 (fun x8 M8 H locs g8 hM hv hw => ?_)
    have hv := hv g8
    obtain ⟨M9, e9⟩ : ∃ M9 : Mem, M9 = up2 M8 14 1 x8 := ⟨_, rfl⟩
    have hv := hv M9 e9
    refine r_iast (ws' := (WM τ ad M9)) hx hb hC hw 14 (gI_M aM_14 τ ad M8) (by decide) (by decide) (by decide) (by rw [e9]; exact sI_M aM_14 τ ad M8 _ _) dX12_paceOf_32 (fun H locs hw => ?_)
    have hM : MR M9 := by rw [e9]; exact hM.put aM_14.pos g8
    refine lv_aload_n hx hb dX12_paceOf_33 rfl (lv_at hl 0 rfl) ?_
    refine gf_X12_58 hx hb hC hw 1 (gM_1 τ ad M9) rfl dX12_paceOf_34 ?_
    refine r_iconst hx hb dX12_paceOf_37 ?_
    refine lv_aload_n hx hb dX12_paceOf_38 rfl (lv_at hl 0 rfl) ?_
    refine gf_X12_20 hx hb hC hw 1 (gM_1 τ ad M9) rfl dX12_paceOf_39 ?_
    refine lv_aload_n hx hb dX12_paceOf_42 rfl (lv_at hl 1 rfl) ?_
    refine lv_iload_n hx hb dX12_paceOf_43 rfl (lv_at hl 2 rfl) ?_
    refine r_iald hx hb hC hw k1 (gI_M hk1 τ ad M9) c3 c4 (by decide) dX12_paceOf_44 ?_
    refine r_top (fun x10 e10 => ?_)
    have g10 : iR x10 := by rw [e10]; exact hM.get hk1.pos _
    have hv := hv x10 e10 g10
    obtain ⟨c11, hv⟩ := hv
    obtain ⟨c12, hv⟩ := hv
    refine r_zald hx hb hC hw 2 (gZ_M aM_2 τ ad M9) c11 c12 (by decide) dX12_paceOf_45 ?_
    refine r_top (fun x13 e13 => ?_)
    have g13 : iR x13 := by rw [e13]; exact hM.get aM_2.pos _
    have hv := hv x13 e13 g13
    refine k_cSi (wq_M τ ad) hx hb hml hC hLS hA hw hl.1 (mX12_flag l D τ ad sA sV _ x13 g13 M9 hM _ hv) kX12_flag ml_X12_154 rfl rfl (Nat.le_of_ble_eq_true rfl) (rm_ok (by decide) (by decide)) ⟨Nat.zero_le _, Nat.zero_le _⟩ dX12_paceOf_46 (fun x14 M14 H locs g14 hM hv hw => ?_)
    have hv := hv g14
    obtain ⟨M15, e15⟩ : ∃ M15 : Mem, M15 = up2 M14 14 2 x14 := ⟨_, rfl⟩
    have hv := hv M15 e15
    refine r_iast (ws' := (WM τ ad M15)) hx hb hC hw 14 (gI_M aM_14 τ ad M14) (by decide) (by decide) (by decide) (by rw [e15]; exact sI_M aM_14 τ ad M14 _ _) dX12_paceOf_49 (fun H locs hw => ?_)
    have hM : MR M15 := by rw [e15]; exact hM.put aM_14.pos g14
    refine lv_aload_n hx hb dX12_paceOf_50 rfl (lv_at hl 0 rfl) ?_
    refine gf_X12_58 hx hb hC hw 1 (gM_1 τ ad M15) rfl dX12_paceOf_51 ?_
    refine r_iconst hx hb dX12_paceOf_54 ?_
    refine lv_aload_n hx hb dX12_paceOf_55 rfl (lv_at hl 0 rfl) ?_
    refine lv_aload_n hx hb dX12_paceOf_56 rfl (lv_at hl 1 rfl) ?_
    refine r_bipush hx hb dX12_paceOf_57 (by decide +kernel) ?_
    refine r_iald hx hb hC hw k1 (gI_M hk1 τ ad M15) (by decide) (by decide) (by decide) dX12_paceOf_59 ?_
    refine r_top (fun x16 e16 => ?_)
    have g16 : iR x16 := by rw [e16]; exact hM.get hk1.pos _
    have hv := hv x16 e16 g16
    refine k_cVi (wq_M τ ad) hx hb hml hC hLS hA hw hl.1 (mX12_weatherOn l D τ ad sA sV _ x16 g16 M15 hM _ hv) kX12_weatherOn ml_X12_272 rfl (gM_1 τ ad M15) rfl rfl (Nat.le_of_ble_eq_true rfl) (rm_ok (by decide) (by decide)) ⟨Nat.zero_le _, Nat.zero_le _⟩ dX12_paceOf_60 (fun x17 M17 H locs g17 hM hv hw => ?_)
    have hv := hv g17
    obtain ⟨M18, e18⟩ : ∃ M18 : Mem, M18 = up2 M17 14 3 x17 := ⟨_, rfl⟩
    have hv := hv M18 e18
    refine r_iast (ws' := (WM τ ad M18)) hx hb hC hw 14 (gI_M aM_14 τ ad M17) (by decide) (by decide) (by decide) (by rw [e18]; exact sI_M aM_14 τ ad M17 _ _) dX12_paceOf_63 (fun H locs hw => ?_)
    have hM : MR M18 := by rw [e18]; exact hM.put aM_14.pos g17
    refine lv_aload_n hx hb dX12_paceOf_64 rfl (lv_at hl 0 rfl) ?_
    refine gf_X12_58 hx hb hC hw 1 (gM_1 τ ad M18) rfl dX12_paceOf_65 ?_
    refine r_iconst hx hb dX12_paceOf_68 ?_
    refine lv_aload_n hx hb dX12_paceOf_69 rfl (lv_at hl 1 rfl) ?_
    refine r_bipush hx hb dX12_paceOf_70 (by decide +kernel) ?_
    refine r_iald hx hb hC hw k1 (gI_M hk1 τ ad M18) (by decide) (by decide) (by decide) dX12_paceOf_72 ?_
    refine r_top (fun x19 e19 => ?_)
    have g19 : iR x19 := by rw [e19]; exact hM.get hk1.pos _
    have hv := hv x19 e19 g19
    refine r_bipush hx hb dX12_paceOf_73 (by decide +kernel) ?_
    refine r_iremF hx hb dX12_paceOf_75 (by decide) (by decide) (fun x20 e20 g20 => ?_)
    have hv := hv x20 e20 g20
    obtain ⟨M21, e21⟩ : ∃ M21 : Mem, M21 = up2 M18 14 4 x20 := ⟨_, rfl⟩
    have hv := hv M21 e21
    refine r_iast (ws' := (WM τ ad M21)) hx hb hC hw 14 (gI_M aM_14 τ ad M18) (by decide) (by decide) (by decide) (by rw [e21]; exact sI_M aM_14 τ ad M18 _ _) dX12_paceOf_76 (fun H locs hw => ?_)
    have hM : MR M21 := by rw [e21]; exact hM.put aM_14.pos g20
    refine lv_aload_n hx hb dX12_paceOf_77 rfl (lv_at hl 0 rfl) ?_
    refine gf_X12_58 hx hb hC hw 1 (gM_1 τ ad M21) rfl dX12_paceOf_78 ?_
    refine r_iconst hx hb dX12_paceOf_81 ?_
    refine lv_iload_n hx hb dX12_paceOf_82 rfl (lv_at hl 2 rfl) ?_
    obtain ⟨M22, e22⟩ : ∃ M22 : Mem, M22 = up2 M21 14 5 p2 := ⟨_, rfl⟩
    have hv := hv M22 e22
    refine r_iast (ws' := (WM τ ad M22)) hx hb hC hw 14 (gI_M aM_14 τ ad M21) (by decide) (by decide) (by decide) (by rw [e22]; exact sI_M aM_14 τ ad M21 _ _) dX12_paceOf_83 (fun H locs hw => ?_)
    have hM : MR M22 := by rw [e22]; exact hM.put aM_14.pos hp2
    refine lv_aload_n hx hb dX12_paceOf_84 rfl (lv_at hl 0 rfl) ?_
    refine gf_X12_58 hx hb hC hw 1 (gM_1 τ ad M22) rfl dX12_paceOf_85 ?_
    refine r_bipush hx hb dX12_paceOf_88 (by decide +kernel) ?_
    refine lv_aload_n hx hb dX12_paceOf_90 rfl (lv_at hl 0 rfl) ?_
    refine lv_aload_n hx hb dX12_paceOf_91 rfl (lv_at hl 1 rfl) ?_
    refine r_bipush hx hb dX12_paceOf_92 (by decide +kernel) ?_
    refine lv_iload_n hx hb dX12_paceOf_94 rfl (lv_at hl 2 rfl) ?_
    refine k_cVi (wq_M τ ad) hx hb hml hC hLS hA hw hl.1 (mX12_bitsBy l D τ ad sA sV _ k1 21 p2 hk1 (by decide) hp2 M22 hM _ hv) kX12_bitsBy ml_X12_275 rfl (gM_1 τ ad M22) rfl rfl (Nat.le_of_ble_eq_true rfl) (rm_ok (by decide) (by decide)) ⟨Nat.zero_le _, Nat.zero_le _⟩ dX12_paceOf_95 (fun x23 M23 H locs g23 hM hv hw => ?_)
    have hv := hv g23
    refine k_cSi (wq_M τ ad) hx hb hml hC hLS hA hw hl.1 (mJ6_bitCount_0f7a4M l D τ ad sA sV _ x23 g23 M23 hM _ hv) kJ6_bitCount_0f7a4 ml_X12_279 rfl rfl (Nat.le_of_ble_eq_true rfl) (rm_ok (by decide) (by decide)) ⟨Nat.zero_le _, Nat.zero_le _⟩ dX12_paceOf_98 (fun x24 M24 H locs g24 hM hv hw => ?_)
    have hv := hv g24
    obtain ⟨M25, e25⟩ : ∃ M25 : Mem, M25 = up2 M24 14 6 x24 := ⟨_, rfl⟩
    have hv := hv M25 e25
    refine r_iast (ws' := (WM τ ad M25)) hx hb hC hw 14 (gI_M aM_14 τ ad M24) (by decide) (by decide) (by decide) (by rw [e25]; exact sI_M aM_14 τ ad M24 _ _) dX12_paceOf_101 (fun H locs hw => ?_)
    have hM : MR M25 := by rw [e25]; exact hM.put aM_14.pos g24
    refine r_iconst hx hb dX12_paceOf_102 ?_
    refine r_iconst hx hb dX12_paceOf_103 ?_
    refine lv_aload_n hx hb dX12_paceOf_104 rfl (lv_at hl 0 rfl) ?_
    refine k_cVi (wq_M τ ad) hx hb hml hC hLS hA hw hl.1 (mX12_ruled l D τ ad sA sV _   M25 hM _ hv) kX12_ruled ml_X12_284 rfl (gM_1 τ ad M25) rfl rfl (Nat.le_of_ble_eq_true rfl) (rm_ok (by decide) (by decide)) ⟨Nat.zero_le _, Nat.zero_le _⟩ dX12_paceOf_105 (fun x26 M26 H locs g26 hM hv hw => ?_)
    have hv := hv g26
    refine r_mminF hx hb hml hC hl.1 ml_X12_145 sm_min in_J9 cd_min (by decide) (Nat.le_of_ble_eq_true rfl) (Nat.zero_le _) (Nat.zero_le _) (by decide) g26 dX12_paceOf_108 (fun x27 e27 g27 => ?_)
    have hv := hv x27 e27 g27
    refine r_mmaxF hx hb hml hC hl.1 ml_X12_287 sm_max in_J9 cd_max (by decide) (Nat.le_of_ble_eq_true rfl) (Nat.zero_le _) (Nat.zero_le _) (by decide) g27 dX12_paceOf_111 (fun x28 e28 g28 => ?_)
    have hv := hv x28 e28 g28
    exact k_iret (wq_M τ ad) hx hb hr hlk hw hM g28 hv dX12_paceOf_114
  · have hv := hv.2 b2
    refine r_iconst hx hb dX12_paceOf_8 ?_
    exact k_iret (wq_M τ ad) hx hb hr hlk hw hM (by decide) hv dX12_paceOf_9
set_option maxHeartbeats 4000000 in
set_option maxRecDepth 100000 in
theorem mX12_refuse (l : Launch) (D : va_G) (τ : Nat → ClassId) (ad : Nat → Nat) (sA sV : Nat → Nat) (sz : Nat)   (M : Mem) (hM : MR M) (Q : Int → Mem → Prop) (hv : qX12_refuse  M Q) : Met l yX12_refuse (lw_w yX12_refuse cX12_refuse 1 (some .int)) (rmk 1 0 0) (kPc D τ sA sV (WM τ ad M) sz [.ref (ad 1)]) (gQi D (EQi (WM τ ad) MR Q) (va_A (WM τ ad M) sz)) 0 0 (va_A (WM τ ad M) sz) := by
  refine k_met (ret := (some .int)) (Qc := gQi D (EQi (WM τ ad) MR Q)) (by decide +kernel) (Nat.le_of_ble_eq_true rfl) ?_
  intro p e s m args below meth c A ls hx hb hml hr hlk hnm hC hLS hA hw hl
  have hC : cx D τ s m args RX12 := hC
  have hl : lv_has ls 1 [(0, .ref (ad 1))] := hl
  unfold qX12_refuse at hv
  refine lv_aload_n hx hb dX12_refuse_0 rfl (lv_at hl 0 rfl) ?_
  refine r_iconst hx hb dX12_refuse_1 ?_
  obtain ⟨M1, e1⟩ : ∃ M1 : Mem, M1 = up2 M 1 0 1 := ⟨_, rfl⟩
  have hv := hv M1 e1
  refine pf_X12_112 (ws' := (WM τ ad M1)) hx hb hC hw 1 (gM_1 τ ad M) (Nat.le_of_ble_eq_true rfl) (by rw [e1]; exact sM_1_0 τ ad M _) dX12_refuse_2 (fun H locs hw => ?_)
  have hM : MR M1 := by rw [e1]; exact hM.put (by decide) (by decide)
  refine r_iconst hx hb dX12_refuse_5 ?_
  exact k_iret (wq_M τ ad) hx hb hr hlk hw hM (by decide) hv dX12_refuse_6
set_option maxHeartbeats 4000000 in
set_option maxRecDepth 100000 in
theorem mX12_hearse (l : Launch) (D : va_G) (τ : Nat → ClassId) (ad : Nat → Nat) (sA sV : Nat → Nat) (sz : Nat) (p1 : Int) (p2 : Int) (hp1 : iR p1) (hp2 : iR p2) (M : Mem) (hM : MR M) (Q : Int → Mem → Prop) (hv : qX12_hearse p1 p2 M Q) : Met l yX12_hearse (lw_w yX12_hearse cX12_hearse 3 (some .int)) (rmk 5 0 0) (kPc D τ sA sV (WM τ ad M) sz [.ref (ad 1), .int (iI p1), .int (iI p2)]) (gQi D (EQi (WM τ ad) MR Q) (va_A (WM τ ad M) sz)) 0 0 (va_A (WM τ ad M) sz) := by
  refine k_met (ret := (some .int)) (Qc := gQi D (EQi (WM τ ad) MR Q)) (by decide +kernel) (Nat.le_of_ble_eq_true rfl) ?_
  intro p e s m args below meth c A ls hx hb hml hr hlk hnm hC hLS hA hw hl
  have hC : cx D τ s m args RX12 := hC
  have hl : lv_has ls 3 [(0, .ref (ad 1)), (1, .int (iI p1)), (2, .int (iI p2))] := hl
  unfold qX12_hearse at hv
  have J25 : ∀  (M : Mem) (H : Heap) (locs : List Loc) (ls : Array Slot), MR M → qX12_hearse_J25 p1 p2 Q  M → wS D A s.heap (WM τ ad M) H locs → lv_has ls 3 [(0, .ref (ad 1))] → W p l e (rmk 5 0 0) s m args below meth c H locs 0 0 (MQ below (gQi D (EQi (WM τ ad) MR Q) A) args s 0 0 A) (F0 m 25 ls []) := by
    intro  M H locs ls hM hv hw hl
    unfold qX12_hearse_J25 at hv
    refine lv_aload_n hx hb dX12_hearse_25 rfl (lv_at hl 0 rfl) ?_
    refine k_cVi (wq_M τ ad) hx hb hml hC hLS hA hw hl.1 (mX12_refuse l D τ ad sA sV _   M hM _ hv) kX12_refuse ml_X12_299 rfl (gM_1 τ ad M) rfl rfl (Nat.le_of_ble_eq_true rfl) (rm_ok (by decide) (by decide)) ⟨Nat.zero_le _, Nat.zero_le _⟩ dX12_hearse_26 (fun x4 M4 H locs g4 hM hv hw => ?_)
    have hv := hv g4
    exact k_iret (wq_M τ ad) hx hb hr hlk hw hM g4 hv dX12_hearse_29
  refine lv_aload_n hx hb dX12_hearse_0 rfl (lv_at hl 0 rfl) ?_
  refine r_iconst hx hb dX12_hearse_1 ?_
  obtain ⟨M1, e1⟩ : ∃ M1 : Mem, M1 = up2 M 1 0 0 := ⟨_, rfl⟩
  have hv := hv M1 e1
  refine pf_X12_112 (ws' := (WM τ ad M1)) hx hb hC hw 1 (gM_1 τ ad M) (Nat.le_of_ble_eq_true rfl) (by rw [e1]; exact sM_1_0 τ ad M _) dX12_hearse_2 (fun H locs hw => ?_)
  have hM : MR M1 := by rw [e1]; exact hM.put (by decide) (by decide)
  refine lv_aload_n hx hb dX12_hearse_5 rfl (lv_at hl 0 rfl) ?_
  refine lv_iload_n hx hb dX12_hearse_6 rfl (lv_at hl 1 rfl) ?_
  refine k_cVz (wq_M τ ad) hx hb hml hC hLS hA hw hl.1 (mX12_isHearse l D τ ad sA sV _ p1 hp1 M1 hM _ hv) kX12_isHearse ml_X12_294 rfl (gM_1 τ ad M1) rfl rfl (Nat.le_of_ble_eq_true rfl) (rm_ok (by decide) (by decide)) ⟨Nat.zero_le _, Nat.zero_le _⟩ dX12_hearse_7 (fun x2 M2 H locs g2 z2 hM hv hw => ?_)
  have hv := hv g2 z2
  refine r_if_eq (tgt := 25) hx hb dX12_hearse_10 (by decide) g2  (fun b3 => ?_) (fun b3 => ?_)
  · have hv := hv.1 b3
    exact J25  M2 _ _ _ hM hv hw (lv_sub hl [0] rfl)
  · have hv := hv.2 b3
    refine lv_iload_n hx hb dX12_hearse_13 rfl (lv_at hl 2 rfl) ?_
    refine r_i2l hx hb dX12_hearse_14 hp2 ?_
    refine r_lconst (z := 0) hx hb dX12_hearse_15 (by decide +kernel) ?_
    refine r_ldc2 (z := 5) hx hb hC ct_X12_297 (by decide +kernel) dX12_hearse_16 ?_
    refine k_cSz (wq_M τ ad) hx hb hml hC hLS hA hw hl.1 (mX12_in l D τ ad sA sV _ p2 0 5 (iR_lR hp2) (by decide) (by decide) M2 hM _ hv) kX12_in ml_X12_125 rfl rfl (Nat.le_of_ble_eq_true rfl) (rm_ok (by decide) (by decide)) ⟨Nat.zero_le _, Nat.zero_le _⟩ dX12_hearse_19 (fun x5 M5 H locs g5 z5 hM hv hw => ?_)
    have hv := hv g5 z5
    refine r_if_ne (tgt := 30) hx hb dX12_hearse_22 (by decide) g5  (fun b6 => ?_) (fun b6 => ?_)
    · have hv := hv.1 b6
      refine lv_iload_n hx hb dX12_hearse_30 rfl (lv_at hl 2 rfl) ?_
      rcases (show p2 = 0 ∨ p2 = 1 ∨ p2 = 2 ∨ p2 = 3 ∨ p2 = 4 ∨ (p2 < 0 ∨ 4 < p2) by omega) with b7 | b7 | b7 | b7 | b7 | b7
      · refine r_tblI (tgt := 64) hx hb dX12_hearse_31 hp2 (by omega) (by omega) (by rw [b7]; first | done | rfl) (by decide) ?_
        have hv := hv.1 b7
        refine lv_aload_n hx hb dX12_hearse_64 rfl (lv_at hl 0 rfl) ?_
        refine gf_X12_31 hx hb hC hw 1 (gM_1 τ ad M5) rfl dX12_hearse_65 ?_
        refine lv_iload_n hx hb dX12_hearse_68 rfl (lv_at hl 1 rfl) ?_
        obtain ⟨c8, hv⟩ := hv
        obtain ⟨c9, hv⟩ := hv
        refine r_iald hx hb hC hw 5 (gI_M aM_5 τ ad M5) c8 c9 (by decide) dX12_hearse_69 ?_
        refine r_top (fun x10 e10 => ?_)
        have g10 : iR x10 := by rw [e10]; exact hM.get aM_5.pos _
        have hv := hv x10 e10 g10
        exact k_iret (wq_M τ ad) hx hb hr hlk hw hM g10 hv dX12_hearse_70
      · refine r_tblI (tgt := 71) hx hb dX12_hearse_31 hp2 (by omega) (by omega) (by rw [b7]; first | done | rfl) (by decide) ?_
        have hv := hv.2.1 b7
        refine lv_aload_n hx hb dX12_hearse_71 rfl (lv_at hl 0 rfl) ?_
        refine gf_X12_31 hx hb hC hw 1 (gM_1 τ ad M5) rfl dX12_hearse_72 ?_
        refine r_bipush hx hb dX12_hearse_75 (by decide +kernel) ?_
        refine lv_iload_n hx hb dX12_hearse_77 rfl (lv_at hl 1 rfl) ?_
        refine r_iadd (z := (6 + p1)) hx hb dX12_hearse_78 rfl ?_
        obtain ⟨c11, hv⟩ := hv
        obtain ⟨c12, hv⟩ := hv
        refine r_iald hx hb hC hw 5 (gI_M aM_5 τ ad M5) c11 c12 (by decide) dX12_hearse_79 ?_
        refine r_top (fun x13 e13 => ?_)
        have g13 : iR x13 := by rw [e13]; exact hM.get aM_5.pos _
        have hv := hv x13 e13 g13
        exact k_iret (wq_M τ ad) hx hb hr hlk hw hM g13 hv dX12_hearse_80
      · refine r_tblI (tgt := 81) hx hb dX12_hearse_31 hp2 (by omega) (by omega) (by rw [b7]; first | done | rfl) (by decide) ?_
        have hv := hv.2.2.1 b7
        refine lv_aload_n hx hb dX12_hearse_81 rfl (lv_at hl 0 rfl) ?_
        refine lv_aload_n hx hb dX12_hearse_82 rfl (lv_at hl 0 rfl) ?_
        refine gf_X12_31 hx hb hC hw 1 (gM_1 τ ad M5) rfl dX12_hearse_83 ?_
        refine lv_iload_n hx hb dX12_hearse_86 rfl (lv_at hl 1 rfl) ?_
        refine k_cVi (wq_M τ ad) hx hb hml hC hLS hA hw hl.1 (mX12_paceOf l D τ ad sA sV _ 5 p1 aM_5 hp1 M5 hM _ hv) kX12_paceOf ml_X12_302 rfl (gM_1 τ ad M5) rfl rfl (Nat.le_of_ble_eq_true rfl) (rm_ok (by decide) (by decide)) ⟨Nat.zero_le _, Nat.zero_le _⟩ dX12_hearse_87 (fun x14 M14 H locs g14 hM hv hw => ?_)
        have hv := hv g14
        exact k_iret (wq_M τ ad) hx hb hr hlk hw hM g14 hv dX12_hearse_90
      · refine r_tblI (tgt := 91) hx hb dX12_hearse_31 hp2 (by omega) (by omega) (by rw [b7]; first | done | rfl) (by decide) ?_
        have hv := hv.2.2.2.1 b7
        refine lv_aload_n hx hb dX12_hearse_91 rfl (lv_at hl 0 rfl) ?_
        refine lv_aload_n hx hb dX12_hearse_92 rfl (lv_at hl 0 rfl) ?_
        refine gf_X12_31 hx hb hC hw 1 (gM_1 τ ad M5) rfl dX12_hearse_93 ?_
        refine r_bipush hx hb dX12_hearse_96 (by decide +kernel) ?_
        refine lv_iload_n hx hb dX12_hearse_98 rfl (lv_at hl 1 rfl) ?_
        refine k_cVi (wq_M τ ad) hx hb hml hC hLS hA hw hl.1 (mX12_bitsBy l D τ ad sA sV _ 5 21 p1 aM_5 (by decide) hp1 M5 hM _ hv) kX12_bitsBy ml_X12_275 rfl (gM_1 τ ad M5) rfl rfl (Nat.le_of_ble_eq_true rfl) (rm_ok (by decide) (by decide)) ⟨Nat.zero_le _, Nat.zero_le _⟩ dX12_hearse_99 (fun x15 M15 H locs g15 hM hv hw => ?_)
        have hv := hv g15
        exact k_iret (wq_M τ ad) hx hb hr hlk hw hM g15 hv dX12_hearse_102
      · refine r_tblI (tgt := 103) hx hb dX12_hearse_31 hp2 (by omega) (by omega) (by rw [b7]; first | done | rfl) (by decide) ?_
        have hv := hv.2.2.2.2.1 b7
        refine lv_aload_n hx hb dX12_hearse_103 rfl (lv_at hl 0 rfl) ?_
        refine lv_aload_n hx hb dX12_hearse_104 rfl (lv_at hl 0 rfl) ?_
        refine gf_X12_31 hx hb hC hw 1 (gM_1 τ ad M5) rfl dX12_hearse_105 ?_
        refine r_bipush hx hb dX12_hearse_108 (by decide +kernel) ?_
        refine lv_iload_n hx hb dX12_hearse_110 rfl (lv_at hl 1 rfl) ?_
        refine k_cVi (wq_M τ ad) hx hb hml hC hLS hA hw hl.1 (mX12_bitsBy l D τ ad sA sV _ 5 29 p1 aM_5 (by decide) hp1 M5 hM _ hv) kX12_bitsBy ml_X12_275 rfl (gM_1 τ ad M5) rfl rfl (Nat.le_of_ble_eq_true rfl) (rm_ok (by decide) (by decide)) ⟨Nat.zero_le _, Nat.zero_le _⟩ dX12_hearse_111 (fun x16 M16 H locs g16 hM hv hw => ?_)
        have hv := hv g16
        exact k_iret (wq_M τ ad) hx hb hr hlk hw hM g16 hv dX12_hearse_114
      · refine r_tblO (tgt := 115) hx hb dX12_hearse_31 hp2 b7 (by decide) ?_
        have hv := hv.2.2.2.2.2 b7
        refine lv_aload_n hx hb dX12_hearse_115 rfl (lv_at hl 0 rfl) ?_
        refine lv_iload_n hx hb dX12_hearse_116 rfl (lv_at hl 1 rfl) ?_
        refine k_cVi (wq_M τ ad) hx hb hml hC hLS hA hw hl.1 (mX12_owners l D τ ad sA sV _ p1 hp1 M5 hM _ hv) kX12_owners ml_X12_305 rfl (gM_1 τ ad M5) rfl rfl (Nat.le_of_ble_eq_true rfl) (rm_ok (by decide) (by decide)) ⟨Nat.zero_le _, Nat.zero_le _⟩ dX12_hearse_117 (fun x17 M17 H locs g17 hM hv hw => ?_)
        have hv := hv g17
        exact k_iret (wq_M τ ad) hx hb hr hlk hw hM g17 hv dX12_hearse_120
    · have hv := hv.2 b6
      exact J25  M5 _ _ _ hM hv hw (lv_sub hl [0] rfl)
set_option maxHeartbeats 4000000 in
set_option maxRecDepth 100000 in
theorem mX12_isMourner (l : Launch) (D : va_G) (τ : Nat → ClassId) (ad : Nat → Nat) (sA sV : Nat → Nat) (sz : Nat) (p1 : Int) (hp1 : iR p1) (M : Mem) (hM : MR M) (Q : Int → Mem → Prop) (hv : qX12_isMourner p1 M Q) : Met l yX12_isMourner (lw_w yX12_isMourner cX12_isMourner 2 (some .boolean)) (rmk 2 0 0) (kPc D τ sA sV (WM τ ad M) sz [.ref (ad 1), .int (iI p1)]) (gQi D (EQz (WM τ ad) MR Q) (va_A (WM τ ad M) sz)) 0 0 (va_A (WM τ ad M) sz) := by
  refine k_met (ret := (some .boolean)) (Qc := gQi D (EQz (WM τ ad) MR Q)) (by decide +kernel) (Nat.le_of_ble_eq_true rfl) ?_
  intro p e s m args below meth c A ls hx hb hml hr hlk hnm hC hLS hA hw hl
  have hC : cx D τ s m args RX12 := hC
  have hl : lv_has ls 2 [(0, .ref (ad 1)), (1, .int (iI p1))] := hl
  unfold qX12_isMourner at hv
  refine lv_iload_n hx hb dX12_isMourner_0 rfl (lv_at hl 1 rfl) ?_
  refine r_i2l hx hb dX12_isMourner_1 hp1 ?_
  refine r_lconst (z := 0) hx hb dX12_isMourner_2 (by decide +kernel) ?_
  refine lv_aload_n hx hb dX12_isMourner_3 rfl (lv_at hl 0 rfl) ?_
  refine gf_X12_129 hx hb hC hw 1 (gM_1 τ ad M) rfl dX12_isMourner_4 ?_
  refine r_top (fun x1 e1 => ?_)
  have g1 : iR x1 := by rw [e1]; exact hM.get (by decide) _
  have hv := hv x1 e1 g1
  refine r_iconst hx hb dX12_isMourner_7 ?_
  refine r_isub (z := (x1 - 1)) hx hb dX12_isMourner_8 rfl ?_
  obtain ⟨c2, hv⟩ := hv
  refine r_i2l hx hb dX12_isMourner_9 c2 ?_
  refine k_cSz (wq_M τ ad) hx hb hml hC hLS hA hw hl.1 (mX12_in l D τ ad sA sV _ p1 0 (x1 - 1) (iR_lR hp1) (by decide) (iR_lR c2) M hM _ hv) kX12_in ml_X12_125 rfl rfl (Nat.le_of_ble_eq_true rfl) (rm_ok (by decide) (by decide)) ⟨Nat.zero_le _, Nat.zero_le _⟩ dX12_isMourner_10 (fun x3 M3 H locs g3 z3 hM hv hw => ?_)
  have hv := hv g3 z3
  obtain ⟨c4, hv⟩ := hv
  exact k_zret (wq_M τ ad) hx hb hr hlk hw hM g3 c4 hv dX12_isMourner_13
set_option maxHeartbeats 4000000 in
set_option maxRecDepth 100000 in
theorem mX12_nearest (l : Launch) (D : va_G) (τ : Nat → ClassId) (ad : Nat → Nat) (sA sV : Nat → Nat) (sz : Nat) (k1 : Nat) (p2 : Int) (hk1 : MI 38 k1) (hp2 : iR p2) (M : Mem) (hM : MR M) (Q : Int → Mem → Prop) (hv : qX12_nearest k1 p2 M Q) : Met l yX12_nearest (lw_w yX12_nearest cX12_nearest 7 (some .int)) (rmk 2 0 0) (kPc D τ sA sV (WM τ ad M) sz [.ref (ad 1), .ref (ad k1), .int (iI p2)]) (gQi D (EQi (WM τ ad) MR Q) (va_A (WM τ ad M) sz)) 0 0 (va_A (WM τ ad M) sz) := by
  refine k_met (ret := (some .int)) (Qc := gQi D (EQi (WM τ ad) MR Q)) (by decide +kernel) (Nat.le_of_ble_eq_true rfl) ?_
  intro p e s m args below meth c A ls hx hb hml hr hlk hnm hC hLS hA hw hl
  have hC : cx D τ s m args RX12 := hC
  have hl : lv_has ls 7 [(0, .ref (ad 1)), (1, .ref (ad k1)), (2, .int (iI p2))] := hl
  unfold qX12_nearest at hv
  have J52 : ∀ (R : Int → Int → Mem → Prop), (∀ (v3 : Int) (v4 : Int) (M : Mem) (H : Heap) (locs : List Loc) (ls : Array Slot), MR M → R v3 v4 M → wS D A s.heap (WM τ ad M) H locs → lv_has ls 7 [(0, .ref (ad 1)), (1, .ref (ad k1)), (2, .int (iI p2)), (3, .int (iI v3)), (4, .int (iI v4))] → W p l e (rmk 2 0 0) s m args below meth c H locs 0 0 (MQ below (gQi D (EQi (WM τ ad) MR Q) A) args s 0 0 A) (F0 m 5 ls [])) → ∀ (v3 : Int) (v4 : Int) (v5 : Int) (t0 : Int) (M : Mem) (H : Heap) (locs : List Loc) (ls : Array Slot), MR M → qX12_nearest_J52 k1 p2 R  Q v3 v4 v5 t0 M → wS D A s.heap (WM τ ad M) H locs → lv_has ls 7 [(0, .ref (ad 1)), (1, .ref (ad k1)), (2, .int (iI p2)), (3, .int (iI v3)), (4, .int (iI v4)), (5, .int (iI v5))] → W p l e (rmk 2 0 0) s m args below meth c H locs 0 0 (MQ below (gQi D (EQi (WM τ ad) MR Q) A) args s 0 0 A) (F0 m 52 ls [.int (iI t0)]) := by
    intro R hR  v3 v4 v5 t0 M H locs ls hM hv hw hl
    unfold qX12_nearest_J52 at hv
    refine lv_istore (lv' := [(6, .int (iI t0)), (0, .ref (ad 1)), (1, .ref (ad k1)), (2, .int (iI p2)), (3, .int (iI v3)), (4, .int (iI v4)), (5, .int (iI v5))]) hx hb dX12_nearest_52 hl (by decide) rfl (fun ls hl => ?_)
    refine lv_iload hx hb dX12_nearest_54 (lv_at hl 6 rfl) ?_
    refine lv_iload hx hb dX12_nearest_56 (lv_at hl 0 rfl) ?_
    obtain ⟨c19, hv⟩ := hv
    obtain ⟨c20, hv⟩ := hv
    refine r_icmp_lt (tgt := 78) hx hb dX12_nearest_58 (by decide) c19 c20 (fun b21 => ?_) (fun b21 => ?_)
    · have hv := hv.1 b21
      refine lv_iload hx hb dX12_nearest_78 (lv_at hl 5 rfl) ?_
      refine lv_goto (tgt := 84) hx hb dX12_nearest_80 (by decide) ?_
      refine lv_istore_n (lv' := [(3, .int (iI v4)), (6, .int (iI t0)), (0, .ref (ad 1)), (1, .ref (ad k1)), (2, .int (iI p2)), (4, .int (iI v4)), (5, .int (iI v5))]) hx hb dX12_nearest_84 rfl hl (by decide) rfl (fun ls hl => ?_)
      refine r_iinc (v := (v4 + 1)) (lv' := [(4, .int (iI (v4 + 1))), (3, .int (iI v4)), (6, .int (iI t0)), (0, .ref (ad 1)), (1, .ref (ad k1)), (2, .int (iI p2)), (5, .int (iI v5))]) hx hb dX12_nearest_85 hl (k := 5) rfl rfl (by decide) rfl (fun ls hl => ?_)
      refine lv_goto (tgt := 5) hx hb dX12_nearest_88 (by decide) ?_
      exact hR v4 (v4 + 1) M _ _ _ hM hv hw (lv_sub hl [3, 4, 5, 1, 0] rfl)
    · have hv := hv.2 b21
      refine lv_iload hx hb dX12_nearest_61 (lv_at hl 6 rfl) ?_
      refine lv_iload hx hb dX12_nearest_63 (lv_at hl 0 rfl) ?_
      refine r_icmp_ne (tgt := 83) hx hb dX12_nearest_65 (by decide) c19 c20 (fun b22 => ?_) (fun b22 => ?_)
      · have hv := hv.1 b22
        refine lv_iload_n hx hb dX12_nearest_83 rfl (lv_at hl 4 rfl) ?_
        refine lv_istore_n (lv' := [(3, .int (iI v3)), (6, .int (iI t0)), (0, .ref (ad 1)), (1, .ref (ad k1)), (2, .int (iI p2)), (4, .int (iI v4)), (5, .int (iI v5))]) hx hb dX12_nearest_84 rfl hl (by decide) rfl (fun ls hl => ?_)
        refine r_iinc (v := (v4 + 1)) (lv' := [(4, .int (iI (v4 + 1))), (3, .int (iI v3)), (6, .int (iI t0)), (0, .ref (ad 1)), (1, .ref (ad k1)), (2, .int (iI p2)), (5, .int (iI v5))]) hx hb dX12_nearest_85 hl (k := 5) rfl rfl (by decide) rfl (fun ls hl => ?_)
        refine lv_goto (tgt := 5) hx hb dX12_nearest_88 (by decide) ?_
        exact hR v3 (v4 + 1) M _ _ _ hM hv hw (lv_sub hl [3, 4, 5, 1, 0] rfl)
      · have hv := hv.2 b22
        refine lv_aload_n hx hb dX12_nearest_68 rfl (lv_at hl 2 rfl) ?_
        refine lv_iload hx hb dX12_nearest_69 (lv_at hl 5 rfl) ?_
        obtain ⟨c23, hv⟩ := hv
        obtain ⟨c24, hv⟩ := hv
        refine r_iald hx hb hC hw k1 (gI_M hk1 τ ad M) c23 c24 (by decide) dX12_nearest_71 ?_
        refine r_top (fun x25 e25 => ?_)
        have g25 : iR x25 := by rw [e25]; exact hM.get hk1.pos _
        have hv := hv x25 e25 g25
        refine lv_aload_n hx hb dX12_nearest_72 rfl (lv_at hl 2 rfl) ?_
        refine lv_iload_n hx hb dX12_nearest_73 rfl (lv_at hl 4 rfl) ?_
        obtain ⟨c26, hv⟩ := hv
        obtain ⟨c27, hv⟩ := hv
        refine r_iald hx hb hC hw k1 (gI_M hk1 τ ad M) c26 c27 (by decide) dX12_nearest_74 ?_
        refine r_top (fun x28 e28 => ?_)
        have g28 : iR x28 := by rw [e28]; exact hM.get hk1.pos _
        have hv := hv x28 e28 g28
        refine r_icmp_le (tgt := 83) hx hb dX12_nearest_75 (by decide) g25 g28 (fun b29 => ?_) (fun b29 => ?_)
        · have hv := hv.1 b29
          refine lv_iload_n hx hb dX12_nearest_83 rfl (lv_at hl 4 rfl) ?_
          refine lv_istore_n (lv' := [(3, .int (iI v3)), (6, .int (iI t0)), (0, .ref (ad 1)), (1, .ref (ad k1)), (2, .int (iI p2)), (4, .int (iI v4)), (5, .int (iI v5))]) hx hb dX12_nearest_84 rfl hl (by decide) rfl (fun ls hl => ?_)
          refine r_iinc (v := (v4 + 1)) (lv' := [(4, .int (iI (v4 + 1))), (3, .int (iI v3)), (6, .int (iI t0)), (0, .ref (ad 1)), (1, .ref (ad k1)), (2, .int (iI p2)), (5, .int (iI v5))]) hx hb dX12_nearest_85 hl (k := 5) rfl rfl (by decide) rfl (fun ls hl => ?_)
          refine lv_goto (tgt := 5) hx hb dX12_nearest_88 (by decide) ?_
          exact hR v3 (v4 + 1) M _ _ _ hM hv hw (lv_sub hl [3, 4, 5, 1, 0] rfl)
        · have hv := hv.2 b29
          refine lv_iload hx hb dX12_nearest_78 (lv_at hl 5 rfl) ?_
          refine lv_goto (tgt := 84) hx hb dX12_nearest_80 (by decide) ?_
          refine lv_istore_n (lv' := [(3, .int (iI v4)), (6, .int (iI t0)), (0, .ref (ad 1)), (1, .ref (ad k1)), (2, .int (iI p2)), (4, .int (iI v4)), (5, .int (iI v5))]) hx hb dX12_nearest_84 rfl hl (by decide) rfl (fun ls hl => ?_)
          refine r_iinc (v := (v4 + 1)) (lv' := [(4, .int (iI (v4 + 1))), (3, .int (iI v4)), (6, .int (iI t0)), (0, .ref (ad 1)), (1, .ref (ad k1)), (2, .int (iI p2)), (5, .int (iI v5))]) hx hb dX12_nearest_85 hl (k := 5) rfl rfl (by decide) rfl (fun ls hl => ?_)
          refine lv_goto (tgt := 5) hx hb dX12_nearest_88 (by decide) ?_
          exact hR v4 (v4 + 1) M _ _ _ hM hv hw (lv_sub hl [3, 4, 5, 1, 0] rfl)
  have L5 : ∀ (n : Nat) (v3 : Int) (v4 : Int) (M : Mem) (H : Heap) (locs : List Loc) (ls : Array Slot), MR M → qX12_nearest_L5 k1 p2  Q n v3 v4 M → wS D A s.heap (WM τ ad M) H locs → lv_has ls 7 [(0, .ref (ad 1)), (1, .ref (ad k1)), (2, .int (iI p2)), (3, .int (iI v3)), (4, .int (iI v4))] → W p l e (rmk 2 0 0) s m args below meth c H locs 0 0 (MQ below (gQi D (EQi (WM τ ad) MR Q) A) args s 0 0 A) (F0 m 5 ls []) := by
    intro n
    induction n with
    | zero => intro v3 v4 M H locs ls hM hv; rw [qX12_nearest_L5] at hv; exact hv.elim
    | succ n ih =>
      intro v3 v4 M H locs ls hM hv hw hl
      rw [qX12_nearest_L5] at hv
      refine lv_iload hx hb dX12_nearest_5 (lv_at hl 4 rfl) ?_
      refine lv_aload_n hx hb dX12_nearest_7 rfl (lv_at hl 0 rfl) ?_
      refine gf_X12_122 hx hb hC hw 1 (gM_1 τ ad M) rfl dX12_nearest_8 ?_
      refine r_top (fun x1 e1 => ?_)
      have g1 : iR x1 := by rw [e1]; exact hM.get (by decide) _
      have hv := hv x1 e1 g1
      obtain ⟨c2, hv⟩ := hv
      refine r_icmp_ge (tgt := 91) hx hb dX12_nearest_11 (by decide) c2 g1 (fun b3 => ?_) (fun b3 => ?_)
      · have hv := hv.1 b3
        refine lv_iload_n hx hb dX12_nearest_91 rfl (lv_at hl 3 rfl) ?_
        obtain ⟨c4, hv⟩ := hv
        exact k_iret (wq_M τ ad) hx hb hr hlk hw hM c4 hv dX12_nearest_92
      · have hv := hv.2 b3
        refine lv_aload_n hx hb dX12_nearest_14 rfl (lv_at hl 1 rfl) ?_
        refine lv_iload hx hb dX12_nearest_15 (lv_at hl 4 rfl) ?_
        refine k_cSz (wq_M τ ad) hx hb hml hC hLS hA hw hl.1 (mX12_isOn l D τ ad sA sV _ k1 v4 hk1 c2 M hM _ hv) kX12_isOn ml_X12_266 rfl rfl (Nat.le_of_ble_eq_true rfl) (rm_ok (by decide) (by decide)) ⟨Nat.zero_le _, Nat.zero_le _⟩ dX12_nearest_17 (fun x5 M5 H locs g5 z5 hM hv hw => ?_)
        have hv := hv g5 z5
        refine r_if_eq (tgt := 85) hx hb dX12_nearest_20 (by decide) g5  (fun b6 => ?_) (fun b6 => ?_)
        · have hv := hv.1 b6
          refine r_iinc (v := (v4 + 1)) (lv' := [(4, .int (iI (v4 + 1))), (0, .ref (ad 1)), (1, .ref (ad k1)), (2, .int (iI p2)), (3, .int (iI v3))]) hx hb dX12_nearest_85 hl (k := 4) rfl rfl (by decide) rfl (fun ls hl => ?_)
          refine lv_goto (tgt := 5) hx hb dX12_nearest_88 (by decide) ?_
          exact ih v3 (v4 + 1) M5 _ _ _ hM hv hw (lv_sub hl [1, 2, 3, 4, 0] rfl)
        · have hv := hv.2 b6
          refine lv_aload_n hx hb dX12_nearest_23 rfl (lv_at hl 1 rfl) ?_
          refine lv_iload hx hb dX12_nearest_24 (lv_at hl 4 rfl) ?_
          obtain ⟨c7, hv⟩ := hv
          obtain ⟨c8, hv⟩ := hv
          refine r_iald hx hb hC hw k1 (gI_M hk1 τ ad M5) c7 c8 (by decide) dX12_nearest_26 ?_
          refine r_top (fun x9 e9 => ?_)
          have g9 : iR x9 := by rw [e9]; exact hM.get hk1.pos _
          have hv := hv x9 e9 g9
          refine lv_iload_n hx hb dX12_nearest_27 rfl (lv_at hl 2 rfl) ?_
          refine r_isub (z := (x9 - p2)) hx hb dX12_nearest_28 rfl ?_
          obtain ⟨c10, hv⟩ := hv
          refine r_mabs hx hb hml hC hl.1 ml_X12_290 sm_abs in_J9 cd_abs (by decide) (Nat.le_of_ble_eq_true rfl) (Nat.zero_le _) (Nat.zero_le _) c10 dX12_nearest_29 (fun x11 e11 g11 => ?_)
          have hv := hv x11 e11 g11
          refine lv_istore (lv' := [(5, .int (iI x11)), (0, .ref (ad 1)), (1, .ref (ad k1)), (2, .int (iI p2)), (3, .int (iI v3)), (4, .int (iI v4))]) hx hb dX12_nearest_32 hl (by decide) rfl (fun ls hl => ?_)
          refine lv_iload_n hx hb dX12_nearest_34 rfl (lv_at hl 4 rfl) ?_
          obtain ⟨c12, hv⟩ := hv
          refine r_if_ge (tgt := 44) hx hb dX12_nearest_35 (by decide) c12  (fun b13 => ?_) (fun b13 => ?_)
          · have hv := hv.1 b13
            refine lv_aload_n hx hb dX12_nearest_44 rfl (lv_at hl 2 rfl) ?_
            refine lv_iload_n hx hb dX12_nearest_45 rfl (lv_at hl 4 rfl) ?_
            obtain ⟨c14, hv⟩ := hv
            obtain ⟨c15, hv⟩ := hv
            refine r_iald hx hb hC hw k1 (gI_M hk1 τ ad M5) c14 c15 (by decide) dX12_nearest_46 ?_
            refine r_top (fun x16 e16 => ?_)
            have g16 : iR x16 := by rw [e16]; exact hM.get hk1.pos _
            have hv := hv x16 e16 g16
            refine lv_iload_n hx hb dX12_nearest_47 rfl (lv_at hl 3 rfl) ?_
            refine r_isub (z := (x16 - p2)) hx hb dX12_nearest_48 rfl ?_
            obtain ⟨c17, hv⟩ := hv
            refine r_mabs hx hb hml hC hl.1 ml_X12_290 sm_abs in_J9 cd_abs (by decide) (Nat.le_of_ble_eq_true rfl) (Nat.zero_le _) (Nat.zero_le _) c17 dX12_nearest_49 (fun x18 e18 g18 => ?_)
            have hv := hv x18 e18 g18
            exact J52 _ ih  v3 v4 x11 x18 M5 _ _ _ hM hv hw (lv_sub hl [1, 2, 3, 4, 5, 0] rfl)
          · have hv := hv.2 b13
            refine r_ldcw (z := 1000000) hx hb hC ct_X12_293 (by decide +kernel) dX12_nearest_38 ?_
            refine lv_goto (tgt := 52) hx hb dX12_nearest_41 (by decide) ?_
            exact J52 _ ih  v3 v4 x11 1000000 M5 _ _ _ hM hv hw (lv_sub hl [1, 2, 3, 4, 5, 0] rfl)
  refine r_iconst hx hb dX12_nearest_0 ?_
  refine lv_istore_n (lv' := [(3, .int (iI (-1))), (0, .ref (ad 1)), (1, .ref (ad k1)), (2, .int (iI p2))]) hx hb dX12_nearest_1 rfl hl (by decide) rfl (fun ls hl => ?_)
  refine r_iconst hx hb dX12_nearest_2 ?_
  refine lv_istore (lv' := [(4, .int (iI 0)), (3, .int (iI (-1))), (0, .ref (ad 1)), (1, .ref (ad k1)), (2, .int (iI p2))]) hx hb dX12_nearest_3 hl (by decide) rfl (fun ls hl => ?_)
  obtain ⟨n30, hv⟩ := hv
  refine L5  n30 (-1) 0 M _ _ _ hM hv hw (lv_sub hl [2, 3, 4, 1, 0] rfl)
set_option maxHeartbeats 4000000 in
set_option maxRecDepth 100000 in
theorem mX12_mourner (l : Launch) (D : va_G) (τ : Nat → ClassId) (ad : Nat → Nat) (sA sV : Nat → Nat) (sz : Nat) (p1 : Int) (p2 : Int) (hp1 : iR p1) (hp2 : iR p2) (M : Mem) (hM : MR M) (Q : Int → Mem → Prop) (hv : qX12_mourner p1 p2 M Q) : Met l yX12_mourner (lw_w yX12_mourner cX12_mourner 3 (some .int)) (rmk 3 0 0) (kPc D τ sA sV (WM τ ad M) sz [.ref (ad 1), .int (iI p1), .int (iI p2)]) (gQi D (EQi (WM τ ad) MR Q) (va_A (WM τ ad M) sz)) 0 0 (va_A (WM τ ad M) sz) := by
  refine k_met (ret := (some .int)) (Qc := gQi D (EQi (WM τ ad) MR Q)) (by decide +kernel) (Nat.le_of_ble_eq_true rfl) ?_
  intro p e s m args below meth c A ls hx hb hml hr hlk hnm hC hLS hA hw hl
  have hC : cx D τ s m args RX12 := hC
  have hl : lv_has ls 3 [(0, .ref (ad 1)), (1, .int (iI p1)), (2, .int (iI p2))] := hl
  unfold qX12_mourner at hv
  have J25 : ∀  (M : Mem) (H : Heap) (locs : List Loc) (ls : Array Slot), MR M → qX12_mourner_J25 p1 p2 Q  M → wS D A s.heap (WM τ ad M) H locs → lv_has ls 3 [(0, .ref (ad 1))] → W p l e (rmk 3 0 0) s m args below meth c H locs 0 0 (MQ below (gQi D (EQi (WM τ ad) MR Q) A) args s 0 0 A) (F0 m 25 ls []) := by
    intro  M H locs ls hM hv hw hl
    unfold qX12_mourner_J25 at hv
    refine lv_aload_n hx hb dX12_mourner_25 rfl (lv_at hl 0 rfl) ?_
    refine k_cVi (wq_M τ ad) hx hb hml hC hLS hA hw hl.1 (mX12_refuse l D τ ad sA sV _   M hM _ hv) kX12_refuse ml_X12_299 rfl (gM_1 τ ad M) rfl rfl (Nat.le_of_ble_eq_true rfl) (rm_ok (by decide) (by decide)) ⟨Nat.zero_le _, Nat.zero_le _⟩ dX12_mourner_26 (fun x4 M4 H locs g4 hM hv hw => ?_)
    have hv := hv g4
    exact k_iret (wq_M τ ad) hx hb hr hlk hw hM g4 hv dX12_mourner_29
  refine lv_aload_n hx hb dX12_mourner_0 rfl (lv_at hl 0 rfl) ?_
  refine r_iconst hx hb dX12_mourner_1 ?_
  obtain ⟨M1, e1⟩ : ∃ M1 : Mem, M1 = up2 M 1 0 0 := ⟨_, rfl⟩
  have hv := hv M1 e1
  refine pf_X12_112 (ws' := (WM τ ad M1)) hx hb hC hw 1 (gM_1 τ ad M) (Nat.le_of_ble_eq_true rfl) (by rw [e1]; exact sM_1_0 τ ad M _) dX12_mourner_2 (fun H locs hw => ?_)
  have hM : MR M1 := by rw [e1]; exact hM.put (by decide) (by decide)
  refine lv_aload_n hx hb dX12_mourner_5 rfl (lv_at hl 0 rfl) ?_
  refine lv_iload_n hx hb dX12_mourner_6 rfl (lv_at hl 1 rfl) ?_
  refine k_cVz (wq_M τ ad) hx hb hml hC hLS hA hw hl.1 (mX12_isMourner l D τ ad sA sV _ p1 hp1 M1 hM _ hv) kX12_isMourner ml_X12_308 rfl (gM_1 τ ad M1) rfl rfl (Nat.le_of_ble_eq_true rfl) (rm_ok (by decide) (by decide)) ⟨Nat.zero_le _, Nat.zero_le _⟩ dX12_mourner_7 (fun x2 M2 H locs g2 z2 hM hv hw => ?_)
  have hv := hv g2 z2
  refine r_if_eq (tgt := 25) hx hb dX12_mourner_10 (by decide) g2  (fun b3 => ?_) (fun b3 => ?_)
  · have hv := hv.1 b3
    exact J25  M2 _ _ _ hM hv hw (lv_sub hl [0] rfl)
  · have hv := hv.2 b3
    refine lv_iload_n hx hb dX12_mourner_13 rfl (lv_at hl 2 rfl) ?_
    refine r_i2l hx hb dX12_mourner_14 hp2 ?_
    refine r_lconst (z := 0) hx hb dX12_mourner_15 (by decide +kernel) ?_
    refine r_ldc2 (z := 4) hx hb hC ct_X12_311 (by decide +kernel) dX12_mourner_16 ?_
    refine k_cSz (wq_M τ ad) hx hb hml hC hLS hA hw hl.1 (mX12_in l D τ ad sA sV _ p2 0 4 (iR_lR hp2) (by decide) (by decide) M2 hM _ hv) kX12_in ml_X12_125 rfl rfl (Nat.le_of_ble_eq_true rfl) (rm_ok (by decide) (by decide)) ⟨Nat.zero_le _, Nat.zero_le _⟩ dX12_mourner_19 (fun x5 M5 H locs g5 z5 hM hv hw => ?_)
    have hv := hv g5 z5
    refine r_if_ne (tgt := 30) hx hb dX12_mourner_22 (by decide) g5  (fun b6 => ?_) (fun b6 => ?_)
    · have hv := hv.1 b6
      refine lv_iload_n hx hb dX12_mourner_30 rfl (lv_at hl 2 rfl) ?_
      rcases (show p2 = 0 ∨ p2 = 1 ∨ p2 = 2 ∨ p2 = 3 ∨ (p2 < 0 ∨ 3 < p2) by omega) with b7 | b7 | b7 | b7 | b7
      · refine r_tblI (tgt := 60) hx hb dX12_mourner_31 hp2 (by omega) (by omega) (by rw [b7]; first | done | rfl) (by decide) ?_
        have hv := hv.1 b7
        refine lv_aload_n hx hb dX12_mourner_60 rfl (lv_at hl 0 rfl) ?_
        refine gf_X12_31 hx hb hC hw 1 (gM_1 τ ad M5) rfl dX12_mourner_61 ?_
        refine r_bipush hx hb dX12_mourner_64 (by decide +kernel) ?_
        refine lv_iload_n hx hb dX12_mourner_66 rfl (lv_at hl 1 rfl) ?_
        refine r_iadd (z := (13 + p1)) hx hb dX12_mourner_67 rfl ?_
        obtain ⟨c8, hv⟩ := hv
        obtain ⟨c9, hv⟩ := hv
        refine r_iald hx hb hC hw 5 (gI_M aM_5 τ ad M5) c8 c9 (by decide) dX12_mourner_68 ?_
        refine r_top (fun x10 e10 => ?_)
        have g10 : iR x10 := by rw [e10]; exact hM.get aM_5.pos _
        have hv := hv x10 e10 g10
        exact k_iret (wq_M τ ad) hx hb hr hlk hw hM g10 hv dX12_mourner_69
      · refine r_tblI (tgt := 70) hx hb dX12_mourner_31 hp2 (by omega) (by omega) (by rw [b7]; first | done | rfl) (by decide) ?_
        have hv := hv.2.1 b7
        refine lv_aload_n hx hb dX12_mourner_70 rfl (lv_at hl 0 rfl) ?_
        refine gf_X12_24 hx hb hC hw 1 (gM_1 τ ad M5) rfl dX12_mourner_71 ?_
        refine lv_iload_n hx hb dX12_mourner_74 rfl (lv_at hl 1 rfl) ?_
        obtain ⟨c11, hv⟩ := hv
        obtain ⟨c12, hv⟩ := hv
        refine r_iald hx hb hC hw 3 (gI_M aM_3 τ ad M5) c11 c12 (by decide) dX12_mourner_75 ?_
        refine r_top (fun x13 e13 => ?_)
        have g13 : iR x13 := by rw [e13]; exact hM.get aM_3.pos _
        have hv := hv x13 e13 g13
        exact k_iret (wq_M τ ad) hx hb hr hlk hw hM g13 hv dX12_mourner_76
      · refine r_tblI (tgt := 77) hx hb dX12_mourner_31 hp2 (by omega) (by omega) (by rw [b7]; first | done | rfl) (by decide) ?_
        have hv := hv.2.2.1 b7
        refine lv_aload_n hx hb dX12_mourner_77 rfl (lv_at hl 0 rfl) ?_
        refine gf_X12_31 hx hb hC hw 1 (gM_1 τ ad M5) rfl dX12_mourner_78 ?_
        refine r_bipush hx hb dX12_mourner_81 (by decide +kernel) ?_
        refine lv_iload_n hx hb dX12_mourner_83 rfl (lv_at hl 1 rfl) ?_
        refine r_iadd (z := (21 + p1)) hx hb dX12_mourner_84 rfl ?_
        obtain ⟨c14, hv⟩ := hv
        obtain ⟨c15, hv⟩ := hv
        refine r_iald hx hb hC hw 5 (gI_M aM_5 τ ad M5) c14 c15 (by decide) dX12_mourner_85 ?_
        refine r_top (fun x16 e16 => ?_)
        have g16 : iR x16 := by rw [e16]; exact hM.get aM_5.pos _
        have hv := hv x16 e16 g16
        exact k_iret (wq_M τ ad) hx hb hr hlk hw hM g16 hv dX12_mourner_86
      · refine r_tblI (tgt := 87) hx hb dX12_mourner_31 hp2 (by omega) (by omega) (by rw [b7]; first | done | rfl) (by decide) ?_
        have hv := hv.2.2.2.1 b7
        refine lv_aload_n hx hb dX12_mourner_87 rfl (lv_at hl 0 rfl) ?_
        refine gf_X12_31 hx hb hC hw 1 (gM_1 τ ad M5) rfl dX12_mourner_88 ?_
        refine r_bipush hx hb dX12_mourner_91 (by decide +kernel) ?_
        refine lv_iload_n hx hb dX12_mourner_93 rfl (lv_at hl 1 rfl) ?_
        refine r_iadd (z := (29 + p1)) hx hb dX12_mourner_94 rfl ?_
        obtain ⟨c17, hv⟩ := hv
        obtain ⟨c18, hv⟩ := hv
        refine r_iald hx hb hC hw 5 (gI_M aM_5 τ ad M5) c17 c18 (by decide) dX12_mourner_95 ?_
        refine r_top (fun x19 e19 => ?_)
        have g19 : iR x19 := by rw [e19]; exact hM.get aM_5.pos _
        have hv := hv x19 e19 g19
        exact k_iret (wq_M τ ad) hx hb hr hlk hw hM g19 hv dX12_mourner_96
      · refine r_tblO (tgt := 97) hx hb dX12_mourner_31 hp2 b7 (by decide) ?_
        have hv := hv.2.2.2.2 b7
        refine lv_aload_n hx hb dX12_mourner_97 rfl (lv_at hl 0 rfl) ?_
        refine lv_aload_n hx hb dX12_mourner_98 rfl (lv_at hl 0 rfl) ?_
        refine gf_X12_31 hx hb hC hw 1 (gM_1 τ ad M5) rfl dX12_mourner_99 ?_
        refine lv_aload_n hx hb dX12_mourner_102 rfl (lv_at hl 0 rfl) ?_
        refine gf_X12_31 hx hb hC hw 1 (gM_1 τ ad M5) rfl dX12_mourner_103 ?_
        refine r_bipush hx hb dX12_mourner_106 (by decide +kernel) ?_
        refine lv_iload_n hx hb dX12_mourner_108 rfl (lv_at hl 1 rfl) ?_
        refine r_iadd (z := (13 + p1)) hx hb dX12_mourner_109 rfl ?_
        obtain ⟨c20, hv⟩ := hv
        obtain ⟨c21, hv⟩ := hv
        refine r_iald hx hb hC hw 5 (gI_M aM_5 τ ad M5) c20 c21 (by decide) dX12_mourner_110 ?_
        refine r_top (fun x22 e22 => ?_)
        have g22 : iR x22 := by rw [e22]; exact hM.get aM_5.pos _
        have hv := hv x22 e22 g22
        refine k_cVi (wq_M τ ad) hx hb hml hC hLS hA hw hl.1 (mX12_nearest l D τ ad sA sV _ 5 x22 aM_5 g22 M5 hM _ hv) kX12_nearest ml_X12_313 rfl (gM_1 τ ad M5) rfl rfl (Nat.le_of_ble_eq_true rfl) (rm_ok (by decide) (by decide)) ⟨Nat.zero_le _, Nat.zero_le _⟩ dX12_mourner_111 (fun x23 M23 H locs g23 hM hv hw => ?_)
        have hv := hv g23
        exact k_iret (wq_M τ ad) hx hb hr hlk hw hM g23 hv dX12_mourner_114
    · have hv := hv.2 b6
      exact J25  M5 _ _ _ hM hv hw (lv_sub hl [0] rfl)
set_option maxHeartbeats 4000000 in
set_option maxRecDepth 100000 in
theorem mX12_isEnded (l : Launch) (D : va_G) (τ : Nat → ClassId) (ad : Nat → Nat) (sA sV : Nat → Nat) (sz : Nat) (k0 : Nat) (p1 : Int) (hk0 : MI 38 k0) (hp1 : iR p1) (M : Mem) (hM : MR M) (Q : Int → Mem → Prop) (hv : qX12_isEnded k0 p1 M Q) : Met l yX12_isEnded (lw_w yX12_isEnded cX12_isEnded 2 (some .boolean)) (rmk 1 0 0) (kPc D τ sA sV (WM τ ad M) sz [.ref (ad k0), .int (iI p1)]) (gQi D (EQz (WM τ ad) MR Q) (va_A (WM τ ad M) sz)) 0 0 (va_A (WM τ ad M) sz) := by
  refine k_met (ret := (some .boolean)) (Qc := gQi D (EQz (WM τ ad) MR Q)) (by decide +kernel) (Nat.le_of_ble_eq_true rfl) ?_
  intro p e s m args below meth c A ls hx hb hml hr hlk hnm hC hLS hA hw hl
  have hC : cx D τ s m args RX12 := hC
  have hl : lv_has ls 2 [(0, .ref (ad k0)), (1, .int (iI p1))] := hl
  unfold qX12_isEnded at hv
  refine lv_aload_n hx hb dX12_isEnded_0 rfl (lv_at hl 0 rfl) ?_
  refine r_bipush hx hb dX12_isEnded_1 (by decide +kernel) ?_
  refine lv_iload_n hx hb dX12_isEnded_3 rfl (lv_at hl 1 rfl) ?_
  refine r_iadd (z := (29 + p1)) hx hb dX12_isEnded_4 rfl ?_
  obtain ⟨c1, hv⟩ := hv
  obtain ⟨c2, hv⟩ := hv
  refine r_iald hx hb hC hw k0 (gI_M hk0 τ ad M) c1 c2 (by decide) dX12_isEnded_5 ?_
  refine r_top (fun x3 e3 => ?_)
  have g3 : iR x3 := by rw [e3]; exact hM.get hk0.pos _
  have hv := hv x3 e3 g3
  refine r_if_lt (tgt := 13) hx hb dX12_isEnded_6 (by decide) g3  (fun b4 => ?_) (fun b4 => ?_)
  · have hv := hv.1 b4
    refine r_iconst hx hb dX12_isEnded_13 ?_
    exact k_zret (wq_M τ ad) hx hb hr hlk hw hM (by decide) (by decide) hv dX12_isEnded_14
  · have hv := hv.2 b4
    refine r_iconst hx hb dX12_isEnded_9 ?_
    refine lv_goto (tgt := 14) hx hb dX12_isEnded_10 (by decide) ?_
    exact k_zret (wq_M τ ad) hx hb hr hlk hw hM (by decide) (by decide) hv dX12_isEnded_14
set_option maxHeartbeats 4000000 in
set_option maxRecDepth 100000 in
theorem mX12_sheet (l : Launch) (D : va_G) (τ : Nat → ClassId) (ad : Nat → Nat) (sA sV : Nat → Nat) (sz : Nat) (p1 : Int) (p2 : Int) (p3 : Int) (p4 : Int) (hp1 : iR p1) (hp2 : iR p2) (hp3 : iR p3) (hp4 : iR p4) (M : Mem) (hM : MR M) (Q : Int → Mem → Prop) (hv : qX12_sheet p1 p2 p3 p4 M Q) : Met l yX12_sheet (lw_w yX12_sheet cX12_sheet 10 (some .int)) (rmk 2 0 0) (kPc D τ sA sV (WM τ ad M) sz [.ref (ad 1), .int (iI p1), .int (iI p2), .int (iI p3), .int (iI p4)]) (gQi D (EQi (WM τ ad) MR Q) (va_A (WM τ ad M) sz)) 0 0 (va_A (WM τ ad M) sz) := by
  refine k_met (ret := (some .int)) (Qc := gQi D (EQi (WM τ ad) MR Q)) (by decide +kernel) (Nat.le_of_ble_eq_true rfl) ?_
  intro p e s m args below meth c A ls hx hb hml hr hlk hnm hC hLS hA hw hl
  have hC : cx D τ s m args RX12 := hC
  have hl : lv_has ls 10 [(0, .ref (ad 1)), (1, .int (iI p1)), (2, .int (iI p2)), (3, .int (iI p3)), (4, .int (iI p4))] := hl
  unfold qX12_sheet at hv
  have J148 : ∀ (R : Int → Int → Int → Mem → Prop), (∀ (v5 : Int) (v6 : Int) (v7 : Int) (M : Mem) (H : Heap) (locs : List Loc) (ls : Array Slot), MR M → R v5 v6 v7 M → wS D A s.heap (WM τ ad M) H locs → lv_has ls 10 [(0, .ref (ad 1)), (1, .int (iI p1)), (2, .int (iI p2)), (4, .int (iI p4)), (5, .int (iI v5)), (6, .int (iI v6)), (7, .int (iI v7))] → W p l e (rmk 2 0 0) s m args below meth c H locs 0 0 (MQ below (gQi D (EQi (WM τ ad) MR Q) A) args s 0 0 A) (F0 m 46 ls [])) → ∀ (X177 : Int → Mem → Prop), (∀ (v5 : Int) (M : Mem) (H : Heap) (locs : List Loc) (ls : Array Slot), MR M → X177 v5 M → wS D A s.heap (WM τ ad M) H locs → lv_has ls 10 [(1, .int (iI p1)), (5, .int (iI v5))] → W p l e (rmk 2 0 0) s m args below meth c H locs 0 0 (MQ below (gQi D (EQi (WM τ ad) MR Q) A) args s 0 0 A) (F0 m 177 ls [])) → ∀ (v5 : Int) (v6 : Int) (v7 : Int) (t0 : Int) (t1 : Int) (M : Mem) (H : Heap) (locs : List Loc) (ls : Array Slot), MR M → qX12_sheet_J148 p1 p2 p3 p4 R X177 Q v5 v6 v7 t0 t1 M → wS D A s.heap (WM τ ad M) H locs → lv_has ls 10 [(0, .ref (ad 1)), (1, .int (iI p1)), (2, .int (iI p2)), (4, .int (iI p4)), (5, .int (iI v5)), (6, .int (iI v6)), (7, .int (iI v7))] → W p l e (rmk 2 0 0) s m args below meth c H locs 0 0 (MQ below (gQi D (EQi (WM τ ad) MR Q) A) args s 0 0 A) (F0 m 148 ls [.int (iI t0), .int (iI t1), .ref (ad 5)]) := by
    intro R hR X177 hX177 v5 v6 v7 t0 t1 M H locs ls hM hv hw hl
    unfold qX12_sheet_J148 at hv
    obtain ⟨c16, hv⟩ := hv
    obtain ⟨c17, hv⟩ := hv
    obtain ⟨c18, hv⟩ := hv
    obtain ⟨M19, e19⟩ : ∃ M19 : Mem, M19 = up2 M 5 t1 t0 := ⟨_, rfl⟩
    have hv := hv M19 e19
    refine r_iast (ws' := (WM τ ad M19)) hx hb hC hw 5 (gI_M aM_5 τ ad M) c16 c17 (by decide) (by rw [e19]; exact sI_M aM_5 τ ad M _ _) dX12_sheet_148 (fun H locs hw => ?_)
    have hM : MR M19 := by rw [e19]; exact hM.put aM_5.pos c18
    refine lv_iload hx hb dX12_sheet_149 (lv_at hl 4 rfl) ?_
    refine lv_aload_n hx hb dX12_sheet_151 rfl (lv_at hl 0 rfl) ?_
    refine gf_X12_31 hx hb hC hw 1 (gM_1 τ ad M19) rfl dX12_sheet_152 ?_
    refine r_bipush hx hb dX12_sheet_155 (by decide +kernel) ?_
    refine lv_iload hx hb dX12_sheet_157 (lv_at hl 6 rfl) ?_
    refine r_iaddW hx hb dX12_sheet_159 (fun x20 e20 g20 => ?_)
    have hv := hv x20 e20 g20
    obtain ⟨c21, hv⟩ := hv
    obtain ⟨c22, hv⟩ := hv
    refine r_iald hx hb hC hw 5 (gI_M aM_5 τ ad M19) c21 c22 (by decide) dX12_sheet_160 ?_
    refine r_top (fun x23 e23 => ?_)
    have g23 : iR x23 := by rw [e23]; exact hM.get aM_5.pos _
    have hv := hv x23 e23 g23
    refine r_iaddW hx hb dX12_sheet_161 (fun x24 e24 g24 => ?_)
    have hv := hv x24 e24 g24
    refine lv_istore (lv' := [(5, .int (iI x24)), (0, .ref (ad 1)), (1, .int (iI p1)), (2, .int (iI p2)), (4, .int (iI p4)), (6, .int (iI v6)), (7, .int (iI v7))]) hx hb dX12_sheet_162 hl (by decide) rfl (fun ls hl => ?_)
    refine lv_iload hx hb dX12_sheet_164 (lv_at hl 5 rfl) ?_
    refine lv_iload hx hb dX12_sheet_166 (lv_at hl 4 rfl) ?_
    refine r_iaddW hx hb dX12_sheet_168 (fun x25 e25 g25 => ?_)
    have hv := hv x25 e25 g25
    refine lv_istore (lv' := [(6, .int (iI x25)), (5, .int (iI x24)), (0, .ref (ad 1)), (1, .int (iI p1)), (2, .int (iI p2)), (4, .int (iI p4)), (7, .int (iI v7))]) hx hb dX12_sheet_169 hl (by decide) rfl (fun ls hl => ?_)
    refine r_iinc (v := (v7 + 1)) (lv' := [(7, .int (iI (v7 + 1))), (6, .int (iI x25)), (5, .int (iI x24)), (0, .ref (ad 1)), (1, .int (iI p1)), (2, .int (iI p2)), (4, .int (iI p4))]) hx hb dX12_sheet_171 hl (k := 6) rfl rfl (by decide) rfl (fun ls hl => ?_)
    refine lv_goto (tgt := 46) hx hb dX12_sheet_174 (by decide) ?_
    exact hR x24 x25 (v7 + 1) M19 _ _ _ hM hv hw (lv_sub hl [3, 4, 5, 6, 2, 1, 0] rfl)
  have J110 : ∀ (R : Int → Int → Int → Mem → Prop), (∀ (v5 : Int) (v6 : Int) (v7 : Int) (M : Mem) (H : Heap) (locs : List Loc) (ls : Array Slot), MR M → R v5 v6 v7 M → wS D A s.heap (WM τ ad M) H locs → lv_has ls 10 [(0, .ref (ad 1)), (1, .int (iI p1)), (2, .int (iI p2)), (4, .int (iI p4)), (5, .int (iI v5)), (6, .int (iI v6)), (7, .int (iI v7))] → W p l e (rmk 2 0 0) s m args below meth c H locs 0 0 (MQ below (gQi D (EQi (WM τ ad) MR Q) A) args s 0 0 A) (F0 m 46 ls [])) → ∀ (X177 : Int → Mem → Prop), (∀ (v5 : Int) (M : Mem) (H : Heap) (locs : List Loc) (ls : Array Slot), MR M → X177 v5 M → wS D A s.heap (WM τ ad M) H locs → lv_has ls 10 [(1, .int (iI p1)), (5, .int (iI v5))] → W p l e (rmk 2 0 0) s m args below meth c H locs 0 0 (MQ below (gQi D (EQi (WM τ ad) MR Q) A) args s 0 0 A) (F0 m 177 ls [])) → ∀ (v5 : Int) (v6 : Int) (v7 : Int) (t0 : Int) (M : Mem) (H : Heap) (locs : List Loc) (ls : Array Slot), MR M → qX12_sheet_J110 p1 p2 p3 p4 R X177 Q v5 v6 v7 t0 M → wS D A s.heap (WM τ ad M) H locs → lv_has ls 10 [(0, .ref (ad 1)), (1, .int (iI p1)), (2, .int (iI p2)), (4, .int (iI p4)), (5, .int (iI v5)), (6, .int (iI v6)), (7, .int (iI v7))] → W p l e (rmk 2 0 0) s m args below meth c H locs 0 0 (MQ below (gQi D (EQi (WM τ ad) MR Q) A) args s 0 0 A) (F0 m 110 ls [.int (iI t0)]) := by
    intro R hR X177 hX177 v5 v6 v7 t0 M H locs ls hM hv hw hl
    unfold qX12_sheet_J110 at hv
    refine lv_istore (lv' := [(9, .int (iI t0)), (0, .ref (ad 1)), (1, .int (iI p1)), (2, .int (iI p2)), (4, .int (iI p4)), (5, .int (iI v5)), (6, .int (iI v6)), (7, .int (iI v7))]) hx hb dX12_sheet_110 hl (by decide) rfl (fun ls hl => ?_)
    refine lv_aload_n hx hb dX12_sheet_112 rfl (lv_at hl 1 rfl) ?_
    refine gf_X12_31 hx hb hC hw 1 (gM_1 τ ad M) rfl dX12_sheet_113 ?_
    refine r_bipush hx hb dX12_sheet_116 (by decide +kernel) ?_
    refine lv_iload hx hb dX12_sheet_118 (lv_at hl 7 rfl) ?_
    refine r_iaddW hx hb dX12_sheet_120 (fun x12 e12 g12 => ?_)
    have hv := hv x12 e12 g12
    refine lv_aload_n hx hb dX12_sheet_121 rfl (lv_at hl 1 rfl) ?_
    refine gf_X12_31 hx hb hC hw 1 (gM_1 τ ad M) rfl dX12_sheet_122 ?_
    refine lv_iload hx hb dX12_sheet_125 (lv_at hl 7 rfl) ?_
    obtain ⟨c13, hv⟩ := hv
    refine k_cSz (wq_M τ ad) hx hb hml hC hLS hA hw hl.1 (mX12_isEnded l D τ ad sA sV _ 5 v7 aM_5 c13 M hM _ hv) kX12_isEnded ml_X12_132 rfl rfl (Nat.le_of_ble_eq_true rfl) (rm_ok (by decide) (by decide)) ⟨Nat.zero_le _, Nat.zero_le _⟩ dX12_sheet_127 (fun x14 M14 H locs g14 z14 hM hv hw => ?_)
    have hv := hv g14 z14
    refine r_if_eq (tgt := 146) hx hb dX12_sheet_130 (by decide) g14  (fun b15 => ?_) (fun b15 => ?_)
    · have hv := hv.1 b15
      refine lv_iload hx hb dX12_sheet_146 (lv_at hl 0 rfl) ?_
      exact J148 _ hR _ hX177 v5 v6 v7 t0 x12 M14 _ _ _ hM hv hw (lv_sub hl [1, 2, 3, 4, 5, 6, 7] rfl)
    · have hv := hv.2 b15
      refine lv_aload_n hx hb dX12_sheet_133 rfl (lv_at hl 1 rfl) ?_
      refine gf_X12_31 hx hb hC hw 1 (gM_1 τ ad M14) rfl dX12_sheet_134 ?_
      refine r_bipush hx hb dX12_sheet_137 (by decide +kernel) ?_
      refine lv_iload hx hb dX12_sheet_139 (lv_at hl 7 rfl) ?_
      refine r_iaddW hx hb dX12_sheet_141 (fun x26 e26 g26 => ?_)
      have hv := hv x26 e26 g26
      obtain ⟨c27, hv⟩ := hv
      obtain ⟨c28, hv⟩ := hv
      refine r_iald hx hb hC hw 5 (gI_M aM_5 τ ad M14) c27 c28 (by decide) dX12_sheet_142 ?_
      refine r_top (fun x29 e29 => ?_)
      have g29 : iR x29 := by rw [e29]; exact hM.get aM_5.pos _
      have hv := hv x29 e29 g29
      refine lv_goto (tgt := 148) hx hb dX12_sheet_143 (by decide) ?_
      exact J148 _ hR _ hX177 v5 v6 v7 x29 x12 M14 _ _ _ hM hv hw (lv_sub hl [1, 2, 3, 4, 5, 6, 7] rfl)
  have J91 : ∀ (R : Int → Int → Int → Mem → Prop), (∀ (v5 : Int) (v6 : Int) (v7 : Int) (M : Mem) (H : Heap) (locs : List Loc) (ls : Array Slot), MR M → R v5 v6 v7 M → wS D A s.heap (WM τ ad M) H locs → lv_has ls 10 [(0, .ref (ad 1)), (1, .int (iI p1)), (2, .int (iI p2)), (4, .int (iI p4)), (5, .int (iI v5)), (6, .int (iI v6)), (7, .int (iI v7))] → W p l e (rmk 2 0 0) s m args below meth c H locs 0 0 (MQ below (gQi D (EQi (WM τ ad) MR Q) A) args s 0 0 A) (F0 m 46 ls [])) → ∀ (X177 : Int → Mem → Prop), (∀ (v5 : Int) (M : Mem) (H : Heap) (locs : List Loc) (ls : Array Slot), MR M → X177 v5 M → wS D A s.heap (WM τ ad M) H locs → lv_has ls 10 [(1, .int (iI p1)), (5, .int (iI v5))] → W p l e (rmk 2 0 0) s m args below meth c H locs 0 0 (MQ below (gQi D (EQi (WM τ ad) MR Q) A) args s 0 0 A) (F0 m 177 ls [])) → ∀ (v5 : Int) (v6 : Int) (v7 : Int) (M : Mem) (H : Heap) (locs : List Loc) (ls : Array Slot), MR M → qX12_sheet_J91 p1 p2 p3 p4 R X177 Q v5 v6 v7 M → wS D A s.heap (WM τ ad M) H locs → lv_has ls 10 [(0, .ref (ad 1)), (1, .int (iI p1)), (2, .int (iI p2)), (4, .int (iI p4)), (5, .int (iI v5)), (6, .int (iI v6)), (7, .int (iI v7))] → W p l e (rmk 2 0 0) s m args below meth c H locs 0 0 (MQ below (gQi D (EQi (WM τ ad) MR Q) A) args s 0 0 A) (F0 m 91 ls []) := by
    intro R hR X177 hX177 v5 v6 v7 M H locs ls hM hv hw hl
    unfold qX12_sheet_J91 at hv
    refine r_iconst hx hb dX12_sheet_91 ?_
    refine lv_goto (tgt := 110) hx hb dX12_sheet_92 (by decide) ?_
    exact J110 _ hR _ hX177 v5 v6 v7 0 M _ _ _ hM hv hw (lv_sub hl [0, 1, 2, 3, 4, 5, 6] rfl)
  have J78 : ∀ (R : Int → Int → Int → Mem → Prop), (∀ (v5 : Int) (v6 : Int) (v7 : Int) (M : Mem) (H : Heap) (locs : List Loc) (ls : Array Slot), MR M → R v5 v6 v7 M → wS D A s.heap (WM τ ad M) H locs → lv_has ls 10 [(0, .ref (ad 1)), (1, .int (iI p1)), (2, .int (iI p2)), (4, .int (iI p4)), (5, .int (iI v5)), (6, .int (iI v6)), (7, .int (iI v7))] → W p l e (rmk 2 0 0) s m args below meth c H locs 0 0 (MQ below (gQi D (EQi (WM τ ad) MR Q) A) args s 0 0 A) (F0 m 46 ls [])) → ∀ (X177 : Int → Mem → Prop), (∀ (v5 : Int) (M : Mem) (H : Heap) (locs : List Loc) (ls : Array Slot), MR M → X177 v5 M → wS D A s.heap (WM τ ad M) H locs → lv_has ls 10 [(1, .int (iI p1)), (5, .int (iI v5))] → W p l e (rmk 2 0 0) s m args below meth c H locs 0 0 (MQ below (gQi D (EQi (WM τ ad) MR Q) A) args s 0 0 A) (F0 m 177 ls [])) → ∀ (v5 : Int) (v6 : Int) (v7 : Int) (t0 : Int) (M : Mem) (H : Heap) (locs : List Loc) (ls : Array Slot), MR M → qX12_sheet_J78 p1 p2 p3 p4 R X177 Q v5 v6 v7 t0 M → wS D A s.heap (WM τ ad M) H locs → lv_has ls 10 [(0, .ref (ad 1)), (1, .int (iI p1)), (2, .int (iI p2)), (4, .int (iI p4)), (5, .int (iI v5)), (6, .int (iI v6)), (7, .int (iI v7))] → W p l e (rmk 2 0 0) s m args below meth c H locs 0 0 (MQ below (gQi D (EQi (WM τ ad) MR Q) A) args s 0 0 A) (F0 m 78 ls [.int (iI t0)]) := by
    intro R hR X177 hX177 v5 v6 v7 t0 M H locs ls hM hv hw hl
    unfold qX12_sheet_J78 at hv
    refine lv_istore (lv' := [(8, .int (iI t0)), (0, .ref (ad 1)), (1, .int (iI p1)), (2, .int (iI p2)), (4, .int (iI p4)), (5, .int (iI v5)), (6, .int (iI v6)), (7, .int (iI v7))]) hx hb dX12_sheet_78 hl (by decide) rfl (fun ls hl => ?_)
    refine lv_iload_n hx hb dX12_sheet_80 rfl (lv_at hl 2 rfl) ?_
    refine r_iconst hx hb dX12_sheet_81 ?_
    refine r_icmp_eq (tgt := 91) hx hb dX12_sheet_82 (by decide) hp1 (by decide) (fun b11 => ?_) (fun b11 => ?_)
    · have hv := hv.1 b11
      exact J91 _ hR _ hX177 v5 v6 v7 M _ _ _ hM hv hw (lv_sub hl [1, 2, 3, 4, 5, 6, 7] rfl)
    · have hv := hv.2 b11
      refine lv_iload hx hb dX12_sheet_85 (lv_at hl 7 rfl) ?_
      refine lv_iload_n hx hb dX12_sheet_87 rfl (lv_at hl 3 rfl) ?_
      obtain ⟨c30, hv⟩ := hv
      refine r_icmp_lt (tgt := 95) hx hb dX12_sheet_88 (by decide) c30 hp2 (fun b31 => ?_) (fun b31 => ?_)
      · have hv := hv.1 b31
        refine r_iconst hx hb dX12_sheet_95 ?_
        refine lv_aload_n hx hb dX12_sheet_96 rfl (lv_at hl 1 rfl) ?_
        refine k_cVi (wq_M τ ad) hx hb hml hC hLS hA hw hl.1 (mX12_gate l D τ ad sA sV _   M hM _ hv) kX12_gate ml_X12_192 rfl (gM_1 τ ad M) rfl rfl (Nat.le_of_ble_eq_true rfl) (rm_ok (by decide) (by decide)) ⟨Nat.zero_le _, Nat.zero_le _⟩ dX12_sheet_97 (fun x32 M32 H locs g32 hM hv hw => ?_)
        have hv := hv g32
        refine r_iconst hx hb dX12_sheet_100 ?_
        refine r_isubW hx hb dX12_sheet_101 (fun x33 e33 g33 => ?_)
        have hv := hv x33 e33 g33
        refine lv_iload hx hb dX12_sheet_102 (lv_at hl 0 rfl) ?_
        obtain ⟨c34, hv⟩ := hv
        refine r_mminF hx hb hml hC hl.1 ml_X12_145 sm_min in_J9 cd_min (by decide) (Nat.le_of_ble_eq_true rfl) (Nat.zero_le _) (Nat.zero_le _) g33 c34 dX12_sheet_104 (fun x35 e35 g35 => ?_)
        have hv := hv x35 e35 g35
        refine r_mmaxF hx hb hml hC hl.1 ml_X12_287 sm_max in_J9 cd_max (by decide) (Nat.le_of_ble_eq_true rfl) (Nat.zero_le _) (Nat.zero_le _) (by decide) g35 dX12_sheet_107 (fun x36 e36 g36 => ?_)
        have hv := hv x36 e36 g36
        exact J110 _ hR _ hX177 v5 v6 v7 x36 M32 _ _ _ hM hv hw (lv_sub hl [1, 2, 3, 4, 5, 6, 7] rfl)
      · have hv := hv.2 b31
        exact J91 _ hR _ hX177 v5 v6 v7 M _ _ _ hM hv hw (lv_sub hl [1, 2, 3, 4, 5, 6, 7] rfl)
  have L46 : ∀ (X177 : Int → Mem → Prop), (∀ (v5 : Int) (M : Mem) (H : Heap) (locs : List Loc) (ls : Array Slot), MR M → X177 v5 M → wS D A s.heap (WM τ ad M) H locs → lv_has ls 10 [(1, .int (iI p1)), (5, .int (iI v5))] → W p l e (rmk 2 0 0) s m args below meth c H locs 0 0 (MQ below (gQi D (EQi (WM τ ad) MR Q) A) args s 0 0 A) (F0 m 177 ls [])) → ∀ (n : Nat) (v5 : Int) (v6 : Int) (v7 : Int) (M : Mem) (H : Heap) (locs : List Loc) (ls : Array Slot), MR M → qX12_sheet_L46 p1 p2 p3 p4 X177 Q n v5 v6 v7 M → wS D A s.heap (WM τ ad M) H locs → lv_has ls 10 [(0, .ref (ad 1)), (1, .int (iI p1)), (2, .int (iI p2)), (4, .int (iI p4)), (5, .int (iI v5)), (6, .int (iI v6)), (7, .int (iI v7))] → W p l e (rmk 2 0 0) s m args below meth c H locs 0 0 (MQ below (gQi D (EQi (WM τ ad) MR Q) A) args s 0 0 A) (F0 m 46 ls []) := by
    intro X177 hX177 n
    induction n with
    | zero => intro v5 v6 v7 M H locs ls hM hv; rw [qX12_sheet_L46] at hv; exact hv.elim
    | succ n ih =>
      intro v5 v6 v7 M H locs ls hM hv hw hl
      rw [qX12_sheet_L46] at hv
      refine lv_iload hx hb dX12_sheet_46 (lv_at hl 6 rfl) ?_
      refine lv_aload_n hx hb dX12_sheet_48 rfl (lv_at hl 0 rfl) ?_
      refine gf_X12_129 hx hb hC hw 1 (gM_1 τ ad M) rfl dX12_sheet_49 ?_
      refine r_top (fun x6 e6 => ?_)
      have g6 : iR x6 := by rw [e6]; exact hM.get (by decide) _
      have hv := hv x6 e6 g6
      obtain ⟨c7, hv⟩ := hv
      refine r_icmp_ge (tgt := 177) hx hb dX12_sheet_52 (by decide) c7 g6 (fun b8 => ?_) (fun b8 => ?_)
      · have hv := hv.1 b8
        exact hX177 v5 M _ _ _ hM hv hw (lv_sub hl [1, 4] rfl)
      · have hv := hv.2 b8
        refine lv_iload_n hx hb dX12_sheet_55 rfl (lv_at hl 1 rfl) ?_
        refine r_if_ne (tgt := 65) hx hb dX12_sheet_56 (by decide) hp1  (fun b9 => ?_) (fun b9 => ?_)
        · have hv := hv.1 b9
          refine lv_iload_n hx hb dX12_sheet_65 rfl (lv_at hl 1 rfl) ?_
          refine r_iconst hx hb dX12_sheet_66 ?_
          refine r_icmp_ne (tgt := 76) hx hb dX12_sheet_67 (by decide) hp1 (by decide) (fun b10 => ?_) (fun b10 => ?_)
          · have hv := hv.1 b10
            refine lv_iload hx hb dX12_sheet_76 (lv_at hl 5 rfl) ?_
            exact J78 _ ih _ hX177 v5 v6 v7 v6 M _ _ _ hM hv hw (lv_sub hl [0, 1, 2, 3, 4, 5, 6] rfl)
          · have hv := hv.2 b10
            refine lv_iload hx hb dX12_sheet_70 (lv_at hl 5 rfl) ?_
            refine r_i2sF hx hb dX12_sheet_72 (fun x37 e37 g37 => ?_)
            have hv := hv x37 e37 g37
            refine lv_goto (tgt := 78) hx hb dX12_sheet_73 (by decide) ?_
            exact J78 _ ih _ hX177 v5 v6 v7 x37 M _ _ _ hM hv hw (lv_sub hl [0, 1, 2, 3, 4, 5, 6] rfl)
        · have hv := hv.2 b9
          refine lv_iload hx hb dX12_sheet_59 (lv_at hl 5 rfl) ?_
          refine r_i2bF hx hb dX12_sheet_61 (fun x38 e38 g38 => ?_)
          have hv := hv x38 e38 g38
          refine lv_goto (tgt := 78) hx hb dX12_sheet_62 (by decide) ?_
          exact J78 _ ih _ hX177 v5 v6 v7 x38 M _ _ _ hM hv hw (lv_sub hl [0, 1, 2, 3, 4, 5, 6] rfl)
  have J37 : ∀  (M : Mem) (H : Heap) (locs : List Loc) (ls : Array Slot), MR M → qX12_sheet_J37 p1 p2 p3 p4 Q  M → wS D A s.heap (WM τ ad M) H locs → lv_has ls 10 [(0, .ref (ad 1)), (1, .int (iI p1)), (2, .int (iI p2)), (3, .int (iI p3)), (4, .int (iI p4))] → W p l e (rmk 2 0 0) s m args below meth c H locs 0 0 (MQ below (gQi D (EQi (WM τ ad) MR Q) A) args s 0 0 A) (F0 m 37 ls []) := by
    intro  M H locs ls hM hv hw hl
    unfold qX12_sheet_J37 at hv
    refine r_iconst hx hb dX12_sheet_37 ?_
    refine lv_istore (lv' := [(5, .int (iI 0)), (0, .ref (ad 1)), (1, .int (iI p1)), (2, .int (iI p2)), (3, .int (iI p3)), (4, .int (iI p4))]) hx hb dX12_sheet_38 hl (by decide) rfl (fun ls hl => ?_)
    refine lv_iload_n hx hb dX12_sheet_40 rfl (lv_at hl 4 rfl) ?_
    refine lv_istore (lv' := [(6, .int (iI p3)), (5, .int (iI 0)), (0, .ref (ad 1)), (1, .int (iI p1)), (2, .int (iI p2)), (3, .int (iI p3)), (4, .int (iI p4))]) hx hb dX12_sheet_41 hl (by decide) rfl (fun ls hl => ?_)
    refine r_iconst hx hb dX12_sheet_43 ?_
    refine lv_istore (lv' := [(7, .int (iI 0)), (6, .int (iI p3)), (5, .int (iI 0)), (0, .ref (ad 1)), (1, .int (iI p1)), (2, .int (iI p2)), (3, .int (iI p3)), (4, .int (iI p4))]) hx hb dX12_sheet_44 hl (by decide) rfl (fun ls hl => ?_)
    obtain ⟨n39, hv⟩ := hv
    refine L46 _ ?_ n39 0 p3 0 M _ _ _ hM hv hw (lv_sub hl [3, 4, 5, 7, 2, 1, 0] rfl)
    · intro v5 M H locs ls hM hv hw hl
      refine lv_iload_n hx hb dX12_sheet_177 rfl (lv_at hl 0 rfl) ?_
      refine r_iconst hx hb dX12_sheet_178 ?_
      refine r_icmp_ne (tgt := 187) hx hb dX12_sheet_179 (by decide) hp1 (by decide) (fun b40 => ?_) (fun b40 => ?_)
      · have hv := hv.1 b40
        refine lv_iload hx hb dX12_sheet_187 (lv_at hl 1 rfl) ?_
        obtain ⟨c41, hv⟩ := hv
        exact k_iret (wq_M τ ad) hx hb hr hlk hw hM c41 hv dX12_sheet_189
      · have hv := hv.2 b40
        refine r_bipush hx hb dX12_sheet_182 (by decide +kernel) ?_
        refine lv_goto (tgt := 189) hx hb dX12_sheet_184 (by decide) ?_
        exact k_iret (wq_M τ ad) hx hb hr hlk hw hM (by decide) hv dX12_sheet_189
  refine lv_aload_n hx hb dX12_sheet_0 rfl (lv_at hl 0 rfl) ?_
  refine r_iconst hx hb dX12_sheet_1 ?_
  obtain ⟨M1, e1⟩ : ∃ M1 : Mem, M1 = up2 M 1 0 0 := ⟨_, rfl⟩
  have hv := hv M1 e1
  refine pf_X12_112 (ws' := (WM τ ad M1)) hx hb hC hw 1 (gM_1 τ ad M) (Nat.le_of_ble_eq_true rfl) (by rw [e1]; exact sM_1_0 τ ad M _) dX12_sheet_2 (fun H locs hw => ?_)
  have hM : MR M1 := by rw [e1]; exact hM.put (by decide) (by decide)
  refine lv_iload_n hx hb dX12_sheet_5 rfl (lv_at hl 1 rfl) ?_
  refine r_i2l hx hb dX12_sheet_6 hp1 ?_
  refine r_lconst (z := 0) hx hb dX12_sheet_7 (by decide +kernel) ?_
  refine r_ldc2 (z := 3) hx hb hC ct_X12_316 (by decide +kernel) dX12_sheet_8 ?_
  refine k_cSz (wq_M τ ad) hx hb hml hC hLS hA hw hl.1 (mX12_in l D τ ad sA sV _ p1 0 3 (iR_lR hp1) (by decide) (by decide) M1 hM _ hv) kX12_in ml_X12_125 rfl rfl (Nat.le_of_ble_eq_true rfl) (rm_ok (by decide) (by decide)) ⟨Nat.zero_le _, Nat.zero_le _⟩ dX12_sheet_11 (fun x2 M2 H locs g2 z2 hM hv hw => ?_)
  have hv := hv g2 z2
  refine r_if_eq (tgt := 23) hx hb dX12_sheet_14 (by decide) g2  (fun b3 => ?_) (fun b3 => ?_)
  · have hv := hv.1 b3
    refine r_iconst hx hb dX12_sheet_23 ?_
    exact k_iret (wq_M τ ad) hx hb hr hlk hw hM (by decide) hv dX12_sheet_24
  · have hv := hv.2 b3
    refine lv_iload_n hx hb dX12_sheet_17 rfl (lv_at hl 2 rfl) ?_
    refine r_bipush hx hb dX12_sheet_18 (by decide +kernel) ?_
    refine r_icmp_le (tgt := 25) hx hb dX12_sheet_20 (by decide) hp2 (by decide) (fun b4 => ?_) (fun b4 => ?_)
    · have hv := hv.1 b4
      refine lv_iload_n hx hb dX12_sheet_25 rfl (lv_at hl 1 rfl) ?_
      refine r_iconst hx hb dX12_sheet_26 ?_
      refine r_icmp_eq (tgt := 37) hx hb dX12_sheet_27 (by decide) hp1 (by decide) (fun b5 => ?_) (fun b5 => ?_)
      · have hv := hv.1 b5
        exact J37  M2 _ _ _ hM hv hw (lv_sub hl [0, 1, 2, 3, 4] rfl)
      · have hv := hv.2 b5
        refine lv_iload_n hx hb dX12_sheet_30 rfl (lv_at hl 2 rfl) ?_
        refine r_if_ge (tgt := 37) hx hb dX12_sheet_31 (by decide) hp2  (fun b42 => ?_) (fun b42 => ?_)
        · have hv := hv.1 b42
          exact J37  M2 _ _ _ hM hv hw (lv_sub hl [0, 1, 2, 3, 4] rfl)
        · have hv := hv.2 b42
          refine r_bipush hx hb dX12_sheet_34 (by decide +kernel) ?_
          exact k_iret (wq_M τ ad) hx hb hr hlk hw hM (by decide) hv dX12_sheet_36
    · have hv := hv.2 b4
      refine r_iconst hx hb dX12_sheet_23 ?_
      exact k_iret (wq_M τ ad) hx hb hr hlk hw hM (by decide) hv dX12_sheet_24
set_option maxHeartbeats 4000000 in
set_option maxRecDepth 100000 in
theorem mX12_undo (l : Launch) (D : va_G) (τ : Nat → ClassId) (ad : Nat → Nat) (sA sV : Nat → Nat) (sz : Nat)   (M : Mem) (hM : MR M) (Q : Int → Mem → Prop) (hv : qX12_undo  M Q) : Met l yX12_undo (lw_w yX12_undo cX12_undo 2 (some .int)) (rmk 1 0 0) (kPc D τ sA sV (WM τ ad M) sz [.ref (ad 1)]) (gQi D (EQi (WM τ ad) MR Q) (va_A (WM τ ad M) sz)) 0 0 (va_A (WM τ ad M) sz) := by
  refine k_met (ret := (some .int)) (Qc := gQi D (EQi (WM τ ad) MR Q)) (by decide +kernel) (Nat.le_of_ble_eq_true rfl) ?_
  intro p e s m args below meth c A ls hx hb hml hr hlk hnm hC hLS hA hw hl
  have hC : cx D τ s m args RX12 := hC
  have hl : lv_has ls 2 [(0, .ref (ad 1))] := hl
  unfold qX12_undo at hv
  have L26 : ∀ (n : Nat) (v1 : Int) (M : Mem) (H : Heap) (locs : List Loc) (ls : Array Slot), MR M → qX12_undo_L26   Q n v1 M → wS D A s.heap (WM τ ad M) H locs → lv_has ls 2 [(0, .ref (ad 1)), (1, .int (iI v1))] → W p l e (rmk 1 0 0) s m args below meth c H locs 0 0 (MQ below (gQi D (EQi (WM τ ad) MR Q) A) args s 0 0 A) (F0 m 26 ls []) := by
    intro n
    induction n with
    | zero => intro v1 M H locs ls hM hv; rw [qX12_undo_L26] at hv; exact hv.elim
    | succ n ih =>
      intro v1 M H locs ls hM hv hw hl
      rw [qX12_undo_L26] at hv
      refine lv_iload_n hx hb dX12_undo_26 rfl (lv_at hl 1 rfl) ?_
      refine r_bipush hx hb dX12_undo_27 (by decide +kernel) ?_
      obtain ⟨c7, hv⟩ := hv
      refine r_icmp_ge (tgt := 58) hx hb dX12_undo_29 (by decide) c7 (by decide) (fun b8 => ?_) (fun b8 => ?_)
      · have hv := hv.1 b8
        refine lv_aload_n hx hb dX12_undo_58 rfl (lv_at hl 0 rfl) ?_
        refine gf_X12_186 hx hb hC hw 1 (gM_1 τ ad M) rfl dX12_undo_59 ?_
        refine r_top (fun x9 e9 => ?_)
        have g9 : iR x9 := by rw [e9]; exact hM.get (by decide) _
        have hv := hv x9 e9 g9
        exact k_iret (wq_M τ ad) hx hb hr hlk hw hM g9 hv dX12_undo_62
      · have hv := hv.2 b8
        refine lv_aload_n hx hb dX12_undo_32 rfl (lv_at hl 0 rfl) ?_
        refine gf_X12_31 hx hb hC hw 1 (gM_1 τ ad M) rfl dX12_undo_33 ?_
        refine lv_iload_n hx hb dX12_undo_36 rfl (lv_at hl 1 rfl) ?_
        refine lv_aload_n hx hb dX12_undo_37 rfl (lv_at hl 0 rfl) ?_
        refine gf_X12_61 hx hb hC hw 1 (gM_1 τ ad M) rfl dX12_undo_38 ?_
        refine r_bipush hx hb dX12_undo_41 (by decide +kernel) ?_
        refine lv_aload_n hx hb dX12_undo_43 rfl (lv_at hl 0 rfl) ?_
        refine gf_X12_186 hx hb hC hw 1 (gM_1 τ ad M) rfl dX12_undo_44 ?_
        refine r_top (fun x10 e10 => ?_)
        have g10 : iR x10 := by rw [e10]; exact hM.get (by decide) _
        have hv := hv x10 e10 g10
        refine r_imul (z := (38 * x10)) hx hb dX12_undo_47 rfl ?_
        refine lv_iload_n hx hb dX12_undo_48 rfl (lv_at hl 1 rfl) ?_
        refine r_iadd (z := ((38 * x10) + v1)) hx hb dX12_undo_49 rfl ?_
        obtain ⟨c11, hv⟩ := hv
        obtain ⟨c12, hv⟩ := hv
        refine r_iald hx hb hC hw 15 (gI_M aM_15 τ ad M) c11 c12 (by decide) dX12_undo_50 ?_
        refine r_top (fun x13 e13 => ?_)
        have g13 : iR x13 := by rw [e13]; exact hM.get aM_15.pos _
        have hv := hv x13 e13 g13
        obtain ⟨c14, hv⟩ := hv
        obtain ⟨c15, hv⟩ := hv
        obtain ⟨M16, e16⟩ : ∃ M16 : Mem, M16 = up2 M 5 v1 x13 := ⟨_, rfl⟩
        have hv := hv M16 e16
        refine r_iast (ws' := (WM τ ad M16)) hx hb hC hw 5 (gI_M aM_5 τ ad M) c14 c15 (by decide) (by rw [e16]; exact sI_M aM_5 τ ad M _ _) dX12_undo_51 (fun H locs hw => ?_)
        have hM : MR M16 := by rw [e16]; exact hM.put aM_5.pos g13
        refine r_iinc (v := (v1 + 1)) (lv' := [(1, .int (iI (v1 + 1))), (0, .ref (ad 1))]) hx hb dX12_undo_52 hl (k := 1) rfl rfl (by decide) rfl (fun ls hl => ?_)
        refine lv_goto (tgt := 26) hx hb dX12_undo_55 (by decide) ?_
        exact ih (v1 + 1) M16 _ _ _ hM hv hw (lv_sub hl [1, 0] rfl)
  refine lv_aload_n hx hb dX12_undo_0 rfl (lv_at hl 0 rfl) ?_
  refine r_iconst hx hb dX12_undo_1 ?_
  obtain ⟨M1, e1⟩ : ∃ M1 : Mem, M1 = up2 M 1 0 0 := ⟨_, rfl⟩
  have hv := hv M1 e1
  refine pf_X12_112 (ws' := (WM τ ad M1)) hx hb hC hw 1 (gM_1 τ ad M) (Nat.le_of_ble_eq_true rfl) (by rw [e1]; exact sM_1_0 τ ad M _) dX12_undo_2 (fun H locs hw => ?_)
  have hM : MR M1 := by rw [e1]; exact hM.put (by decide) (by decide)
  refine lv_aload_n hx hb dX12_undo_5 rfl (lv_at hl 0 rfl) ?_
  refine gf_X12_186 hx hb hC hw 1 (gM_1 τ ad M1) rfl dX12_undo_6 ?_
  refine r_top (fun x2 e2 => ?_)
  have g2 : iR x2 := by rw [e2]; exact hM.get (by decide) _
  have hv := hv x2 e2 g2
  refine r_if_ne (tgt := 14) hx hb dX12_undo_9 (by decide) g2  (fun b3 => ?_) (fun b3 => ?_)
  · have hv := hv.1 b3
    refine lv_aload_n hx hb dX12_undo_14 rfl (lv_at hl 0 rfl) ?_
    refine lv_dup hx hb dX12_undo_15 rfl ?_
    refine gf_X12_186 hx hb hC hw 1 (gM_1 τ ad M1) rfl dX12_undo_16 ?_
    refine r_top (fun x4 e4 => ?_)
    have g4 : iR x4 := by rw [e4]; exact hM.get (by decide) _
    have hv := hv x4 e4 g4
    refine r_iconst hx hb dX12_undo_19 ?_
    refine r_isub (z := (x4 - 1)) hx hb dX12_undo_20 rfl ?_
    obtain ⟨c5, hv⟩ := hv
    obtain ⟨M6, e6⟩ : ∃ M6 : Mem, M6 = up2 M1 1 28 (x4 - 1) := ⟨_, rfl⟩
    have hv := hv M6 e6
    refine pf_X12_186 (ws' := (WM τ ad M6)) hx hb hC hw 1 (gM_1 τ ad M1) (Nat.le_of_ble_eq_true rfl) (by rw [e6]; exact sM_1_28 τ ad M1 _) dX12_undo_21 (fun H locs hw => ?_)
    have hM : MR M6 := by rw [e6]; exact hM.put (by decide) c5
    refine r_iconst hx hb dX12_undo_24 ?_
    refine lv_istore_n (lv' := [(1, .int (iI 0)), (0, .ref (ad 1))]) hx hb dX12_undo_25 rfl hl (by decide) rfl (fun ls hl => ?_)
    obtain ⟨n17, hv⟩ := hv
    refine L26  n17 0 M6 _ _ _ hM hv hw (lv_sub hl [1, 0] rfl)
  · have hv := hv.2 b3
    refine r_iconst hx hb dX12_undo_12 ?_
    exact k_iret (wq_M τ ad) hx hb hr hlk hw hM (by decide) hv dX12_undo_13
set_option maxHeartbeats 4000000 in
set_option maxRecDepth 100000 in
theorem mX12_adds (l : Launch) (D : va_G) (τ : Nat → ClassId) (ad : Nat → Nat) (sA sV : Nat → Nat) (sz : Nat) (p1 : Int) (hp1 : iR p1) (M : Mem) (hM : MR M) (Q : Int → Mem → Prop) (hv : qX12_adds p1 M Q) : Met l yX12_adds (lw_w yX12_adds cX12_adds 3 (some .int)) (rmk 1 0 0) (kPc D τ sA sV (WM τ ad M) sz [.ref (ad 1), .int (iI p1)]) (gQi D (EQi (WM τ ad) MR Q) (va_A (WM τ ad M) sz)) 0 0 (va_A (WM τ ad M) sz) := by
  refine k_met (ret := (some .int)) (Qc := gQi D (EQi (WM τ ad) MR Q)) (by decide +kernel) (Nat.le_of_ble_eq_true rfl) ?_
  intro p e s m args below meth c A ls hx hb hml hr hlk hnm hC hLS hA hw hl
  have hC : cx D τ s m args RX12 := hC
  have hl : lv_has ls 3 [(0, .ref (ad 1)), (1, .int (iI p1))] := hl
  unfold qX12_adds at hv
  have L21 : ∀ (X49 : Mem → Prop), (∀  (M : Mem) (H : Heap) (locs : List Loc) (ls : Array Slot), MR M → X49  M → wS D A s.heap (WM τ ad M) H locs → lv_has ls 3 [(0, .ref (ad 1)), (1, .int (iI p1))] → W p l e (rmk 1 0 0) s m args below meth c H locs 0 0 (MQ below (gQi D (EQi (WM τ ad) MR Q) A) args s 0 0 A) (F0 m 49 ls [])) → ∀ (n : Nat) (v2 : Int) (M : Mem) (H : Heap) (locs : List Loc) (ls : Array Slot), MR M → qX12_adds_L21 p1 X49 Q n v2 M → wS D A s.heap (WM τ ad M) H locs → lv_has ls 3 [(0, .ref (ad 1)), (1, .int (iI p1)), (2, .int (iI v2))] → W p l e (rmk 1 0 0) s m args below meth c H locs 0 0 (MQ below (gQi D (EQi (WM τ ad) MR Q) A) args s 0 0 A) (F0 m 21 ls []) := by
    intro X49 hX49 n
    induction n with
    | zero => intro v2 M H locs ls hM hv; rw [qX12_adds_L21] at hv; exact hv.elim
    | succ n ih =>
      intro v2 M H locs ls hM hv hw hl
      rw [qX12_adds_L21] at hv
      refine lv_iload_n hx hb dX12_adds_21 rfl (lv_at hl 2 rfl) ?_
      refine r_sipush hx hb dX12_adds_22 (by decide +kernel) ?_
      obtain ⟨c6, hv⟩ := hv
      refine r_icmp_ge (tgt := 49) hx hb dX12_adds_25 (by decide) c6 (by decide) (fun b7 => ?_) (fun b7 => ?_)
      · have hv := hv.1 b7
        exact hX49  M _ _ _ hM hv hw (lv_sub hl [0, 1] rfl)
      · have hv := hv.2 b7
        refine lv_aload_n hx hb dX12_adds_28 rfl (lv_at hl 0 rfl) ?_
        refine gf_X12_61 hx hb hC hw 1 (gM_1 τ ad M) rfl dX12_adds_29 ?_
        refine lv_iload_n hx hb dX12_adds_32 rfl (lv_at hl 2 rfl) ?_
        refine lv_aload_n hx hb dX12_adds_33 rfl (lv_at hl 0 rfl) ?_
        refine gf_X12_61 hx hb hC hw 1 (gM_1 τ ad M) rfl dX12_adds_34 ?_
        refine lv_iload_n hx hb dX12_adds_37 rfl (lv_at hl 2 rfl) ?_
        refine r_bipush hx hb dX12_adds_38 (by decide +kernel) ?_
        refine r_iadd (z := (v2 + 38)) hx hb dX12_adds_40 rfl ?_
        obtain ⟨c8, hv⟩ := hv
        obtain ⟨c9, hv⟩ := hv
        refine r_iald hx hb hC hw 15 (gI_M aM_15 τ ad M) c8 c9 (by decide) dX12_adds_41 ?_
        refine r_top (fun x10 e10 => ?_)
        have g10 : iR x10 := by rw [e10]; exact hM.get aM_15.pos _
        have hv := hv x10 e10 g10
        obtain ⟨c11, hv⟩ := hv
        obtain ⟨c12, hv⟩ := hv
        obtain ⟨M13, e13⟩ : ∃ M13 : Mem, M13 = up2 M 15 v2 x10 := ⟨_, rfl⟩
        have hv := hv M13 e13
        refine r_iast (ws' := (WM τ ad M13)) hx hb hC hw 15 (gI_M aM_15 τ ad M) c11 c12 (by decide) (by rw [e13]; exact sI_M aM_15 τ ad M _ _) dX12_adds_42 (fun H locs hw => ?_)
        have hM : MR M13 := by rw [e13]; exact hM.put aM_15.pos g10
        refine r_iinc (v := (v2 + 1)) (lv' := [(2, .int (iI (v2 + 1))), (0, .ref (ad 1)), (1, .int (iI p1))]) hx hb dX12_adds_43 hl (k := 2) rfl rfl (by decide) rfl (fun ls hl => ?_)
        refine lv_goto (tgt := 21) hx hb dX12_adds_46 (by decide) ?_
        exact ih (v2 + 1) M13 _ _ _ hM hv hw (lv_sub hl [1, 2, 0] rfl)
  refine lv_aload_n hx hb dX12_adds_0 rfl (lv_at hl 0 rfl) ?_
  refine lv_dup hx hb dX12_adds_1 rfl ?_
  refine gf_X12_186 hx hb hC hw 1 (gM_1 τ ad M) rfl dX12_adds_2 ?_
  refine r_top (fun x1 e1 => ?_)
  have g1 : iR x1 := by rw [e1]; exact hM.get (by decide) _
  have hv := hv x1 e1 g1
  refine r_iconst hx hb dX12_adds_5 ?_
  refine r_iadd (z := (x1 + 1)) hx hb dX12_adds_6 rfl ?_
  obtain ⟨c2, hv⟩ := hv
  obtain ⟨M3, e3⟩ : ∃ M3 : Mem, M3 = up2 M 1 28 (x1 + 1) := ⟨_, rfl⟩
  have hv := hv M3 e3
  refine pf_X12_186 (ws' := (WM τ ad M3)) hx hb hC hw 1 (gM_1 τ ad M) (Nat.le_of_ble_eq_true rfl) (by rw [e3]; exact sM_1_28 τ ad M _) dX12_adds_7 (fun H locs hw => ?_)
  have hM : MR M3 := by rw [e3]; exact hM.put (by decide) c2
  refine lv_aload_n hx hb dX12_adds_10 rfl (lv_at hl 0 rfl) ?_
  refine gf_X12_186 hx hb hC hw 1 (gM_1 τ ad M3) rfl dX12_adds_11 ?_
  refine r_top (fun x4 e4 => ?_)
  have g4 : iR x4 := by rw [e4]; exact hM.get (by decide) _
  have hv := hv x4 e4 g4
  refine r_bipush hx hb dX12_adds_14 (by decide +kernel) ?_
  refine r_icmp_le (tgt := 59) hx hb dX12_adds_16 (by decide) g4 (by decide) (fun b5 => ?_) (fun b5 => ?_)
  · have hv := hv.1 b5
    refine lv_iload_n hx hb dX12_adds_59 rfl (lv_at hl 1 rfl) ?_
    exact k_iret (wq_M τ ad) hx hb hr hlk hw hM hp1 hv dX12_adds_60
  · have hv := hv.2 b5
    refine r_iconst hx hb dX12_adds_19 ?_
    refine lv_istore_n (lv' := [(2, .int (iI 0)), (0, .ref (ad 1)), (1, .int (iI p1))]) hx hb dX12_adds_20 rfl hl (by decide) rfl (fun ls hl => ?_)
    obtain ⟨n14, hv⟩ := hv
    refine L21 _ ?_ n14 0 M3 _ _ _ hM hv hw (lv_sub hl [1, 2, 0] rfl)
    · intro  M H locs ls hM hv hw hl
      refine lv_aload_n hx hb dX12_adds_49 rfl (lv_at hl 0 rfl) ?_
      refine lv_dup hx hb dX12_adds_50 rfl ?_
      refine gf_X12_186 hx hb hC hw 1 (gM_1 τ ad M) rfl dX12_adds_51 ?_
      refine r_top (fun x15 e15 => ?_)
      have g15 : iR x15 := by rw [e15]; exact hM.get (by decide) _
      have hv := hv x15 e15 g15
      refine r_iconst hx hb dX12_adds_54 ?_
      refine r_isub (z := (x15 - 1)) hx hb dX12_adds_55 rfl ?_
      obtain ⟨c16, hv⟩ := hv
      obtain ⟨M17, e17⟩ : ∃ M17 : Mem, M17 = up2 M 1 28 (x15 - 1) := ⟨_, rfl⟩
      have hv := hv M17 e17
      refine pf_X12_186 (ws' := (WM τ ad M17)) hx hb hC hw 1 (gM_1 τ ad M) (Nat.le_of_ble_eq_true rfl) (by rw [e17]; exact sM_1_28 τ ad M _) dX12_adds_56 (fun H locs hw => ?_)
      have hM : MR M17 := by rw [e17]; exact hM.put (by decide) c16
      refine lv_iload_n hx hb dX12_adds_59 rfl (lv_at hl 1 rfl) ?_
      exact k_iret (wq_M τ ad) hx hb hr hlk hw hM hp1 hv dX12_adds_60
set_option maxHeartbeats 4000000 in
set_option maxRecDepth 100000 in
theorem mX12_enters (l : Launch) (D : va_G) (τ : Nat → ClassId) (ad : Nat → Nat) (sA sV : Nat → Nat) (sz : Nat) (p1 : Int) (hp1 : lR p1) (M : Mem) (hM : MR M) (Q : Mem → Prop) (hv : qX12_enters p1 M Q) : Met l yX12_enters (lw_w yX12_enters cX12_enters 3 none) (rmk 1 0 0) (kPc D τ sA sV (WM τ ad M) sz [.ref (ad 1), .long (lI p1)]) (gQv D (EQv (WM τ ad) MR Q) (va_A (WM τ ad M) sz)) 0 0 (va_A (WM τ ad M) sz) := by
  refine k_met (ret := none) (Qc := gQv D (EQv (WM τ ad) MR Q)) (by decide +kernel) (Nat.le_of_ble_eq_true rfl) ?_
  intro p e s m args below meth c A ls hx hb hml hr hlk hnm hC hLS hA hw hl
  have hC : cx D τ s m args RX12 := hC
  have hl : lv_has ls 3 [(0, .ref (ad 1)), (1, .long (lI p1))] := hl
  unfold qX12_enters at hv
  refine lv_aload_n hx hb dX12_enters_0 rfl (lv_at hl 0 rfl) ?_
  refine gf_X12_9 hx hb hC hw 1 (gM_1 τ ad M) rfl dX12_enters_1 ?_
  refine lv_aload_n hx hb dX12_enters_4 rfl (lv_at hl 0 rfl) ?_
  refine gf_X12_119 hx hb hC hw 1 (gM_1 τ ad M) rfl dX12_enters_5 ?_
  refine r_top (fun x1 e1 => ?_)
  have g1 : iR x1 := by rw [e1]; exact hM.get (by decide) _
  have hv := hv x1 e1 g1
  refine lv_lload_n hx hb dX12_enters_8 rfl (lv_at hl 1 rfl) ?_
  obtain ⟨c2, hv⟩ := hv
  obtain ⟨c3, hv⟩ := hv
  obtain ⟨M4, e4⟩ : ∃ M4 : Mem, M4 = up2 M 0 x1 p1 := ⟨_, rfl⟩
  have hv := hv M4 e4
  refine r_last (ws' := (WM τ ad M4)) hx hb hC hw 0 (gJ_M aM_0 τ ad M) c2 c3 (by decide) (by rw [e4]; exact sJ_M aM_0 τ ad M _ _) dX12_enters_9 (fun H locs hw => ?_)
  have hM : MR M4 := by rw [e4]; exact hM.putL hp1
  refine lv_aload_n hx hb dX12_enters_10 rfl (lv_at hl 0 rfl) ?_
  refine lv_dup hx hb dX12_enters_11 rfl ?_
  refine gf_X12_119 hx hb hC hw 1 (gM_1 τ ad M4) rfl dX12_enters_12 ?_
  refine r_top (fun x5 e5 => ?_)
  have g5 : iR x5 := by rw [e5]; exact hM.get (by decide) _
  have hv := hv x5 e5 g5
  refine r_iconst hx hb dX12_enters_15 ?_
  refine r_iadd (z := (x5 + 1)) hx hb dX12_enters_16 rfl ?_
  obtain ⟨c6, hv⟩ := hv
  obtain ⟨M7, e7⟩ : ∃ M7 : Mem, M7 = up2 M4 1 1 (x5 + 1) := ⟨_, rfl⟩
  have hv := hv M7 e7
  refine pf_X12_119 (ws' := (WM τ ad M7)) hx hb hC hw 1 (gM_1 τ ad M4) (Nat.le_of_ble_eq_true rfl) (by rw [e7]; exact sM_1_1 τ ad M4 _) dX12_enters_17 (fun H locs hw => ?_)
  have hM : MR M7 := by rw [e7]; exact hM.put (by decide) c6
  exact k_vret (wq_M τ ad) hx hb hr hlk hw hM hv dX12_enters_20
set_option maxHeartbeats 4000000 in
set_option maxRecDepth 100000 in
theorem mX12_goal (l : Launch) (D : va_G) (τ : Nat → ClassId) (ad : Nat → Nat) (sA sV : Nat → Nat) (sz : Nat) (k1 : Nat) (p2 : Int) (p3 : Int) (hk1 : MI 38 k1) (hp2 : iR p2) (hp3 : iR p3) (M : Mem) (hM : MR M) (Q : Int → Mem → Prop) (hv : qX12_goal k1 p2 p3 M Q) : Met l yX12_goal (lw_w yX12_goal cX12_goal 10 (some .int)) (rmk 2 0 0) (kPc D τ sA sV (WM τ ad M) sz [.ref (ad 1), .ref (ad k1), .int (iI p2), .int (iI p3)]) (gQi D (EQi (WM τ ad) MR Q) (va_A (WM τ ad M) sz)) 0 0 (va_A (WM τ ad M) sz) := by
  refine k_met (ret := (some .int)) (Qc := gQi D (EQi (WM τ ad) MR Q)) (by decide +kernel) (Nat.le_of_ble_eq_true rfl) ?_
  intro p e s m args below meth c A ls hx hb hml hr hlk hnm hC hLS hA hw hl
  have hC : cx D τ s m args RX12 := hC
  have hl : lv_has ls 10 [(0, .ref (ad 1)), (1, .ref (ad k1)), (2, .int (iI p2)), (3, .int (iI p3))] := hl
  unfold qX12_goal at hv
  have J113 : ∀ (R : Int → Int → Int → Int → Int → Mem → Prop), (∀ (v4 : Int) (v5 : Int) (v6 : Int) (v7 : Int) (v8 : Int) (M : Mem) (H : Heap) (locs : List Loc) (ls : Array Slot), MR M → R v4 v5 v6 v7 v8 M → wS D A s.heap (WM τ ad M) H locs → lv_has ls 10 [(0, .ref (ad 1)), (1, .ref (ad k1)), (3, .int (iI p3)), (4, .int (iI v4)), (5, .int (iI v5)), (6, .int (iI v6)), (7, .int (iI v7)), (8, .int (iI v8))] → W p l e (rmk 2 0 0) s m args below meth c H locs 0 0 (MQ below (gQi D (EQi (WM τ ad) MR Q) A) args s 0 0 A) (F0 m 27 ls [])) → ∀ (v4 : Int) (v6 : Int) (v7 : Int) (v8 : Int) (v9 : Int) (t0 : Int) (M : Mem) (H : Heap) (locs : List Loc) (ls : Array Slot), MR M → qX12_goal_J113 k1 p2 p3 R  Q v4 v6 v7 v8 v9 t0 M → wS D A s.heap (WM τ ad M) H locs → lv_has ls 10 [(0, .ref (ad 1)), (1, .ref (ad k1)), (3, .int (iI p3)), (4, .int (iI v4)), (6, .int (iI v6)), (7, .int (iI v7)), (8, .int (iI v8)), (9, .int (iI v9))] → W p l e (rmk 2 0 0) s m args below meth c H locs 0 0 (MQ below (gQi D (EQi (WM τ ad) MR Q) A) args s 0 0 A) (F0 m 113 ls [.int (iI t0)]) := by
    intro R hR  v4 v6 v7 v8 v9 t0 M H locs ls hM hv hw hl
    unfold qX12_goal_J113 at hv
    refine lv_istore (lv' := [(5, .int (iI t0)), (0, .ref (ad 1)), (1, .ref (ad k1)), (3, .int (iI p3)), (4, .int (iI v4)), (6, .int (iI v6)), (7, .int (iI v7)), (8, .int (iI v8)), (9, .int (iI v9))]) hx hb dX12_goal_113 hl (by decide) rfl (fun ls hl => ?_)
    refine lv_iload hx hb dX12_goal_115 (lv_at hl 5 rfl) ?_
    obtain ⟨c20, hv⟩ := hv
    refine r_if_ne (tgt := 125) hx hb dX12_goal_117 (by decide) c20  (fun b21 => ?_) (fun b21 => ?_)
    · have hv := hv.1 b21
      refine r_iconst hx hb dX12_goal_125 ?_
      refine lv_goto (tgt := 130) hx hb dX12_goal_126 (by decide) ?_
      refine lv_istore (lv' := [(6, .int (iI 1)), (5, .int (iI t0)), (0, .ref (ad 1)), (1, .ref (ad k1)), (3, .int (iI p3)), (4, .int (iI v4)), (7, .int (iI v7)), (8, .int (iI v8)), (9, .int (iI v9))]) hx hb dX12_goal_130 hl (by decide) rfl (fun ls hl => ?_)
      refine r_iinc (v := (v8 + 1)) (lv' := [(8, .int (iI (v8 + 1))), (6, .int (iI 1)), (5, .int (iI t0)), (0, .ref (ad 1)), (1, .ref (ad k1)), (3, .int (iI p3)), (4, .int (iI v4)), (7, .int (iI v7)), (9, .int (iI v9))]) hx hb dX12_goal_132 hl (k := 7) rfl rfl (by decide) rfl (fun ls hl => ?_)
      refine lv_goto (tgt := 27) hx hb dX12_goal_135 (by decide) ?_
      exact hR v4 t0 1 v7 (v8 + 1) M _ _ _ hM hv hw (lv_sub hl [3, 4, 5, 6, 2, 1, 7, 0] rfl)
    · have hv := hv.2 b21
      refine lv_iload hx hb dX12_goal_120 (lv_at hl 8 rfl) ?_
      obtain ⟨c22, hv⟩ := hv
      refine r_if_ne (tgt := 129) hx hb dX12_goal_122 (by decide) c22  (fun b23 => ?_) (fun b23 => ?_)
      · have hv := hv.1 b23
        refine r_iconst hx hb dX12_goal_129 ?_
        refine lv_istore (lv' := [(6, .int (iI 0)), (5, .int (iI t0)), (0, .ref (ad 1)), (1, .ref (ad k1)), (3, .int (iI p3)), (4, .int (iI v4)), (7, .int (iI v7)), (8, .int (iI v8)), (9, .int (iI v9))]) hx hb dX12_goal_130 hl (by decide) rfl (fun ls hl => ?_)
        refine r_iinc (v := (v8 + 1)) (lv' := [(8, .int (iI (v8 + 1))), (6, .int (iI 0)), (5, .int (iI t0)), (0, .ref (ad 1)), (1, .ref (ad k1)), (3, .int (iI p3)), (4, .int (iI v4)), (7, .int (iI v7)), (9, .int (iI v9))]) hx hb dX12_goal_132 hl (k := 7) rfl rfl (by decide) rfl (fun ls hl => ?_)
        refine lv_goto (tgt := 27) hx hb dX12_goal_135 (by decide) ?_
        exact hR v4 t0 0 v7 (v8 + 1) M _ _ _ hM hv hw (lv_sub hl [3, 4, 5, 6, 2, 1, 7, 0] rfl)
      · have hv := hv.2 b23
        refine r_iconst hx hb dX12_goal_125 ?_
        refine lv_goto (tgt := 130) hx hb dX12_goal_126 (by decide) ?_
        refine lv_istore (lv' := [(6, .int (iI 1)), (5, .int (iI t0)), (0, .ref (ad 1)), (1, .ref (ad k1)), (3, .int (iI p3)), (4, .int (iI v4)), (7, .int (iI v7)), (8, .int (iI v8)), (9, .int (iI v9))]) hx hb dX12_goal_130 hl (by decide) rfl (fun ls hl => ?_)
        refine r_iinc (v := (v8 + 1)) (lv' := [(8, .int (iI (v8 + 1))), (6, .int (iI 1)), (5, .int (iI t0)), (0, .ref (ad 1)), (1, .ref (ad k1)), (3, .int (iI p3)), (4, .int (iI v4)), (7, .int (iI v7)), (9, .int (iI v9))]) hx hb dX12_goal_132 hl (k := 7) rfl rfl (by decide) rfl (fun ls hl => ?_)
        refine lv_goto (tgt := 27) hx hb dX12_goal_135 (by decide) ?_
        exact hR v4 t0 1 v7 (v8 + 1) M _ _ _ hM hv hw (lv_sub hl [3, 4, 5, 6, 2, 1, 7, 0] rfl)
  have J111 : ∀ (R : Int → Int → Int → Int → Int → Mem → Prop), (∀ (v4 : Int) (v5 : Int) (v6 : Int) (v7 : Int) (v8 : Int) (M : Mem) (H : Heap) (locs : List Loc) (ls : Array Slot), MR M → R v4 v5 v6 v7 v8 M → wS D A s.heap (WM τ ad M) H locs → lv_has ls 10 [(0, .ref (ad 1)), (1, .ref (ad k1)), (3, .int (iI p3)), (4, .int (iI v4)), (5, .int (iI v5)), (6, .int (iI v6)), (7, .int (iI v7)), (8, .int (iI v8))] → W p l e (rmk 2 0 0) s m args below meth c H locs 0 0 (MQ below (gQi D (EQi (WM τ ad) MR Q) A) args s 0 0 A) (F0 m 27 ls [])) → ∀ (v4 : Int) (v5 : Int) (v6 : Int) (v7 : Int) (v8 : Int) (v9 : Int) (M : Mem) (H : Heap) (locs : List Loc) (ls : Array Slot), MR M → qX12_goal_J111 k1 p2 p3 R  Q v4 v5 v6 v7 v8 v9 M → wS D A s.heap (WM τ ad M) H locs → lv_has ls 10 [(0, .ref (ad 1)), (1, .ref (ad k1)), (3, .int (iI p3)), (4, .int (iI v4)), (5, .int (iI v5)), (6, .int (iI v6)), (7, .int (iI v7)), (8, .int (iI v8)), (9, .int (iI v9))] → W p l e (rmk 2 0 0) s m args below meth c H locs 0 0 (MQ below (gQi D (EQi (WM τ ad) MR Q) A) args s 0 0 A) (F0 m 111 ls []) := by
    intro R hR  v4 v5 v6 v7 v8 v9 M H locs ls hM hv hw hl
    unfold qX12_goal_J111 at hv
    refine lv_iload hx hb dX12_goal_111 (lv_at hl 4 rfl) ?_
    exact J113 _ hR  v4 v6 v7 v8 v9 v5 M _ _ _ hM hv hw (lv_sub hl [0, 1, 2, 3, 5, 6, 7, 8] rfl)
  have J106 : ∀ (R : Int → Int → Int → Int → Int → Mem → Prop), (∀ (v4 : Int) (v5 : Int) (v6 : Int) (v7 : Int) (v8 : Int) (M : Mem) (H : Heap) (locs : List Loc) (ls : Array Slot), MR M → R v4 v5 v6 v7 v8 M → wS D A s.heap (WM τ ad M) H locs → lv_has ls 10 [(0, .ref (ad 1)), (1, .ref (ad k1)), (3, .int (iI p3)), (4, .int (iI v4)), (5, .int (iI v5)), (6, .int (iI v6)), (7, .int (iI v7)), (8, .int (iI v8))] → W p l e (rmk 2 0 0) s m args below meth c H locs 0 0 (MQ below (gQi D (EQi (WM τ ad) MR Q) A) args s 0 0 A) (F0 m 27 ls [])) → ∀ (v4 : Int) (v6 : Int) (v7 : Int) (v8 : Int) (v9 : Int) (M : Mem) (H : Heap) (locs : List Loc) (ls : Array Slot), MR M → qX12_goal_J106 k1 p2 p3 R  Q v4 v6 v7 v8 v9 M → wS D A s.heap (WM τ ad M) H locs → lv_has ls 10 [(0, .ref (ad 1)), (1, .ref (ad k1)), (3, .int (iI p3)), (4, .int (iI v4)), (6, .int (iI v6)), (7, .int (iI v7)), (8, .int (iI v8)), (9, .int (iI v9))] → W p l e (rmk 2 0 0) s m args below meth c H locs 0 0 (MQ below (gQi D (EQi (WM τ ad) MR Q) A) args s 0 0 A) (F0 m 106 ls []) := by
    intro R hR  v4 v6 v7 v8 v9 M H locs ls hM hv hw hl
    unfold qX12_goal_J106 at hv
    refine lv_iload hx hb dX12_goal_106 (lv_at hl 6 rfl) ?_
    refine lv_goto (tgt := 113) hx hb dX12_goal_108 (by decide) ?_
    exact J113 _ hR  v4 v6 v7 v8 v9 v8 M _ _ _ hM hv hw (lv_sub hl [0, 1, 2, 3, 4, 5, 6, 7] rfl)
  have J89 : ∀ (R : Int → Int → Int → Int → Int → Mem → Prop), (∀ (v4 : Int) (v5 : Int) (v6 : Int) (v7 : Int) (v8 : Int) (M : Mem) (H : Heap) (locs : List Loc) (ls : Array Slot), MR M → R v4 v5 v6 v7 v8 M → wS D A s.heap (WM τ ad M) H locs → lv_has ls 10 [(0, .ref (ad 1)), (1, .ref (ad k1)), (3, .int (iI p3)), (4, .int (iI v4)), (5, .int (iI v5)), (6, .int (iI v6)), (7, .int (iI v7)), (8, .int (iI v8))] → W p l e (rmk 2 0 0) s m args below meth c H locs 0 0 (MQ below (gQi D (EQi (WM τ ad) MR Q) A) args s 0 0 A) (F0 m 27 ls [])) → ∀ (v4 : Int) (v5 : Int) (v6 : Int) (v7 : Int) (v8 : Int) (t0 : Int) (M : Mem) (H : Heap) (locs : List Loc) (ls : Array Slot), MR M → qX12_goal_J89 k1 p2 p3 R  Q v4 v5 v6 v7 v8 t0 M → wS D A s.heap (WM τ ad M) H locs → lv_has ls 10 [(0, .ref (ad 1)), (1, .ref (ad k1)), (3, .int (iI p3)), (4, .int (iI v4)), (5, .int (iI v5)), (6, .int (iI v6)), (7, .int (iI v7)), (8, .int (iI v8))] → W p l e (rmk 2 0 0) s m args below meth c H locs 0 0 (MQ below (gQi D (EQi (WM τ ad) MR Q) A) args s 0 0 A) (F0 m 89 ls [.int (iI t0)]) := by
    intro R hR  v4 v5 v6 v7 v8 t0 M H locs ls hM hv hw hl
    unfold qX12_goal_J89 at hv
    refine lv_istore (lv' := [(9, .int (iI t0)), (0, .ref (ad 1)), (1, .ref (ad k1)), (3, .int (iI p3)), (4, .int (iI v4)), (5, .int (iI v5)), (6, .int (iI v6)), (7, .int (iI v7)), (8, .int (iI v8))]) hx hb dX12_goal_89 hl (by decide) rfl (fun ls hl => ?_)
    refine lv_iload hx hb dX12_goal_91 (lv_at hl 0 rfl) ?_
    obtain ⟨c18, hv⟩ := hv
    refine r_if_eq (tgt := 111) hx hb dX12_goal_93 (by decide) c18  (fun b19 => ?_) (fun b19 => ?_)
    · have hv := hv.1 b19
      exact J111 _ hR  v4 v5 v6 v7 v8 t0 M _ _ _ hM hv hw (lv_sub hl [1, 2, 3, 4, 5, 6, 7, 8, 0] rfl)
    · have hv := hv.2 b19
      refine lv_iload hx hb dX12_goal_96 (lv_at hl 6 rfl) ?_
      obtain ⟨c24, hv⟩ := hv
      refine r_if_eq (tgt := 106) hx hb dX12_goal_98 (by decide) c24  (fun b25 => ?_) (fun b25 => ?_)
      · have hv := hv.1 b25
        exact J106 _ hR  v4 v6 v7 v8 t0 M _ _ _ hM hv hw (lv_sub hl [1, 2, 3, 4, 6, 7, 8, 0] rfl)
      · have hv := hv.2 b25
        refine lv_iload hx hb dX12_goal_101 (lv_at hl 7 rfl) ?_
        obtain ⟨c26, hv⟩ := hv
        refine r_if_ne (tgt := 111) hx hb dX12_goal_103 (by decide) c26  (fun b27 => ?_) (fun b27 => ?_)
        · have hv := hv.1 b27
          exact J111 _ hR  v4 v5 v6 v7 v8 t0 M _ _ _ hM hv hw (lv_sub hl [1, 2, 3, 4, 5, 6, 7, 8, 0] rfl)
        · have hv := hv.2 b27
          exact J106 _ hR  v4 v6 v7 v8 t0 M _ _ _ hM hv hw (lv_sub hl [1, 2, 3, 4, 6, 7, 8, 0] rfl)
  have J84 : ∀ (R : Int → Int → Int → Int → Int → Mem → Prop), (∀ (v4 : Int) (v5 : Int) (v6 : Int) (v7 : Int) (v8 : Int) (M : Mem) (H : Heap) (locs : List Loc) (ls : Array Slot), MR M → R v4 v5 v6 v7 v8 M → wS D A s.heap (WM τ ad M) H locs → lv_has ls 10 [(0, .ref (ad 1)), (1, .ref (ad k1)), (3, .int (iI p3)), (4, .int (iI v4)), (5, .int (iI v5)), (6, .int (iI v6)), (7, .int (iI v7)), (8, .int (iI v8))] → W p l e (rmk 2 0 0) s m args below meth c H locs 0 0 (MQ below (gQi D (EQi (WM τ ad) MR Q) A) args s 0 0 A) (F0 m 27 ls [])) → ∀ (v4 : Int) (v5 : Int) (v6 : Int) (v7 : Int) (v8 : Int) (M : Mem) (H : Heap) (locs : List Loc) (ls : Array Slot), MR M → qX12_goal_J84 k1 p2 p3 R  Q v4 v5 v6 v7 v8 M → wS D A s.heap (WM τ ad M) H locs → lv_has ls 10 [(0, .ref (ad 1)), (1, .ref (ad k1)), (3, .int (iI p3)), (4, .int (iI v4)), (5, .int (iI v5)), (6, .int (iI v6)), (7, .int (iI v7)), (8, .int (iI v8))] → W p l e (rmk 2 0 0) s m args below meth c H locs 0 0 (MQ below (gQi D (EQi (WM τ ad) MR Q) A) args s 0 0 A) (F0 m 84 ls []) := by
    intro R hR  v4 v5 v6 v7 v8 M H locs ls hM hv hw hl
    unfold qX12_goal_J84 at hv
    refine r_iconst hx hb dX12_goal_84 ?_
    refine lv_goto (tgt := 89) hx hb dX12_goal_85 (by decide) ?_
    exact J89 _ hR  v4 v5 v6 v7 v8 1 M _ _ _ hM hv hw (lv_sub hl [0, 1, 2, 3, 4, 5, 6, 7] rfl)
  have J63 : ∀ (R : Int → Int → Int → Int → Int → Mem → Prop), (∀ (v4 : Int) (v5 : Int) (v6 : Int) (v7 : Int) (v8 : Int) (M : Mem) (H : Heap) (locs : List Loc) (ls : Array Slot), MR M → R v4 v5 v6 v7 v8 M → wS D A s.heap (WM τ ad M) H locs → lv_has ls 10 [(0, .ref (ad 1)), (1, .ref (ad k1)), (3, .int (iI p3)), (4, .int (iI v4)), (5, .int (iI v5)), (6, .int (iI v6)), (7, .int (iI v7)), (8, .int (iI v8))] → W p l e (rmk 2 0 0) s m args below meth c H locs 0 0 (MQ below (gQi D (EQi (WM τ ad) MR Q) A) args s 0 0 A) (F0 m 27 ls [])) → ∀ (v4 : Int) (v5 : Int) (v6 : Int) (v8 : Int) (t0 : Int) (M : Mem) (H : Heap) (locs : List Loc) (ls : Array Slot), MR M → qX12_goal_J63 k1 p2 p3 R  Q v4 v5 v6 v8 t0 M → wS D A s.heap (WM τ ad M) H locs → lv_has ls 10 [(0, .ref (ad 1)), (1, .ref (ad k1)), (3, .int (iI p3)), (4, .int (iI v4)), (5, .int (iI v5)), (6, .int (iI v6)), (8, .int (iI v8))] → W p l e (rmk 2 0 0) s m args below meth c H locs 0 0 (MQ below (gQi D (EQi (WM τ ad) MR Q) A) args s 0 0 A) (F0 m 63 ls [.int (iI t0)]) := by
    intro R hR  v4 v5 v6 v8 t0 M H locs ls hM hv hw hl
    unfold qX12_goal_J63 at hv
    refine lv_istore (lv' := [(7, .int (iI t0)), (0, .ref (ad 1)), (1, .ref (ad k1)), (3, .int (iI p3)), (4, .int (iI v4)), (5, .int (iI v5)), (6, .int (iI v6)), (8, .int (iI v8))]) hx hb dX12_goal_63 hl (by decide) rfl (fun ls hl => ?_)
    refine lv_iload hx hb dX12_goal_65 (lv_at hl 7 rfl) ?_
    refine lv_aload_n hx hb dX12_goal_67 rfl (lv_at hl 1 rfl) ?_
    refine k_cVi (wq_M τ ad) hx hb hml hC hLS hA hw hl.1 (mX12_gate l D τ ad sA sV _   M hM _ hv) kX12_gate ml_X12_192 rfl (gM_1 τ ad M) rfl rfl (Nat.le_of_ble_eq_true rfl) (rm_ok (by decide) (by decide)) ⟨Nat.zero_le _, Nat.zero_le _⟩ dX12_goal_68 (fun x15 M15 H locs g15 hM hv hw => ?_)
    have hv := hv g15
    obtain ⟨c16, hv⟩ := hv
    refine r_icmp_eq (tgt := 84) hx hb dX12_goal_71 (by decide) c16 g15 (fun b17 => ?_) (fun b17 => ?_)
    · have hv := hv.1 b17
      exact J84 _ hR  v4 v5 v6 t0 v8 M15 _ _ _ hM hv hw (lv_sub hl [1, 2, 3, 4, 5, 6, 0, 7] rfl)
    · have hv := hv.2 b17
      refine lv_aload_n hx hb dX12_goal_74 rfl (lv_at hl 1 rfl) ?_
      refine lv_aload_n hx hb dX12_goal_75 rfl (lv_at hl 2 rfl) ?_
      refine lv_iload hx hb dX12_goal_76 (lv_at hl 7 rfl) ?_
      refine k_cVi (wq_M τ ad) hx hb hml hC hLS hA hw hl.1 (mX12_onCell l D τ ad sA sV _ k1 v8 hk1 c16 M15 hM _ hv) kX12_onCell ml_X12_195 rfl (gM_1 τ ad M15) rfl rfl (Nat.le_of_ble_eq_true rfl) (rm_ok (by decide) (by decide)) ⟨Nat.zero_le _, Nat.zero_le _⟩ dX12_goal_78 (fun x28 M28 H locs g28 hM hv hw => ?_)
      have hv := hv g28
      refine r_if_ge (tgt := 88) hx hb dX12_goal_81 (by decide) g28  (fun b29 => ?_) (fun b29 => ?_)
      · have hv := hv.1 b29
        refine r_iconst hx hb dX12_goal_88 ?_
        exact J89 _ hR  v4 v5 v6 t0 v8 0 M28 _ _ _ hM hv hw (lv_sub hl [1, 2, 3, 4, 5, 6, 0, 7] rfl)
      · have hv := hv.2 b29
        exact J84 _ hR  v4 v5 v6 t0 v8 M28 _ _ _ hM hv hw (lv_sub hl [1, 2, 3, 4, 5, 6, 0, 7] rfl)
  have J58 : ∀ (R : Int → Int → Int → Int → Int → Mem → Prop), (∀ (v4 : Int) (v5 : Int) (v6 : Int) (v7 : Int) (v8 : Int) (M : Mem) (H : Heap) (locs : List Loc) (ls : Array Slot), MR M → R v4 v5 v6 v7 v8 M → wS D A s.heap (WM τ ad M) H locs → lv_has ls 10 [(0, .ref (ad 1)), (1, .ref (ad k1)), (3, .int (iI p3)), (4, .int (iI v4)), (5, .int (iI v5)), (6, .int (iI v6)), (7, .int (iI v7)), (8, .int (iI v8))] → W p l e (rmk 2 0 0) s m args below meth c H locs 0 0 (MQ below (gQi D (EQi (WM τ ad) MR Q) A) args s 0 0 A) (F0 m 27 ls [])) → ∀ (v4 : Int) (v5 : Int) (v6 : Int) (v8 : Int) (M : Mem) (H : Heap) (locs : List Loc) (ls : Array Slot), MR M → qX12_goal_J58 k1 p2 p3 R  Q v4 v5 v6 v8 M → wS D A s.heap (WM τ ad M) H locs → lv_has ls 10 [(0, .ref (ad 1)), (1, .ref (ad k1)), (3, .int (iI p3)), (4, .int (iI v4)), (5, .int (iI v5)), (6, .int (iI v6)), (8, .int (iI v8))] → W p l e (rmk 2 0 0) s m args below meth c H locs 0 0 (MQ below (gQi D (EQi (WM τ ad) MR Q) A) args s 0 0 A) (F0 m 58 ls []) := by
    intro R hR  v4 v5 v6 v8 M H locs ls hM hv hw hl
    unfold qX12_goal_J58 at hv
    refine r_iconst hx hb dX12_goal_58 ?_
    refine lv_goto (tgt := 63) hx hb dX12_goal_59 (by decide) ?_
    exact J63 _ hR  v4 v5 v6 v8 1 M _ _ _ hM hv hw (lv_sub hl [0, 1, 2, 3, 4, 5, 6] rfl)
  have L27 : ∀ (n : Nat) (v4 : Int) (v5 : Int) (v6 : Int) (v7 : Int) (v8 : Int) (M : Mem) (H : Heap) (locs : List Loc) (ls : Array Slot), MR M → qX12_goal_L27 k1 p2 p3  Q n v4 v5 v6 v7 v8 M → wS D A s.heap (WM τ ad M) H locs → lv_has ls 10 [(0, .ref (ad 1)), (1, .ref (ad k1)), (3, .int (iI p3)), (4, .int (iI v4)), (5, .int (iI v5)), (6, .int (iI v6)), (7, .int (iI v7)), (8, .int (iI v8))] → W p l e (rmk 2 0 0) s m args below meth c H locs 0 0 (MQ below (gQi D (EQi (WM τ ad) MR Q) A) args s 0 0 A) (F0 m 27 ls []) := by
    intro n
    induction n with
    | zero => intro v4 v5 v6 v7 v8 M H locs ls hM hv; rw [qX12_goal_L27] at hv; exact hv.elim
    | succ n ih =>
      intro v4 v5 v6 v7 v8 M H locs ls hM hv hw hl
      rw [qX12_goal_L27] at hv
      refine lv_iload hx hb dX12_goal_27 (lv_at hl 7 rfl) ?_
      refine lv_aload_n hx hb dX12_goal_29 rfl (lv_at hl 0 rfl) ?_
      refine k_cVi (wq_M τ ad) hx hb hml hC hLS hA hw hl.1 (mX12_gate l D τ ad sA sV _   M hM _ hv) kX12_gate ml_X12_192 rfl (gM_1 τ ad M) rfl rfl (Nat.le_of_ble_eq_true rfl) (rm_ok (by decide) (by decide)) ⟨Nat.zero_le _, Nat.zero_le _⟩ dX12_goal_30 (fun x7 M7 H locs g7 hM hv hw => ?_)
      have hv := hv g7
      refine lv_iload hx hb dX12_goal_33 (lv_at hl 3 rfl) ?_
      refine lv_iload_n hx hb dX12_goal_35 rfl (lv_at hl 2 rfl) ?_
      refine r_iadd (z := (v4 + p3)) hx hb dX12_goal_36 rfl ?_
      obtain ⟨c8, hv⟩ := hv
      refine r_mminF hx hb hml hC hl.1 ml_X12_145 sm_min in_J9 cd_min (by decide) (Nat.le_of_ble_eq_true rfl) (Nat.zero_le _) (Nat.zero_le _) g7 c8 dX12_goal_37 (fun x9 e9 g9 => ?_)
      have hv := hv x9 e9 g9
      obtain ⟨c10, hv⟩ := hv
      refine r_icmp_gt (tgt := 138) hx hb dX12_goal_40 (by decide) c10 g9 (fun b11 => ?_) (fun b11 => ?_)
      · have hv := hv.1 b11
        refine lv_iload hx hb dX12_goal_138 (lv_at hl 4 rfl) ?_
        obtain ⟨c12, hv⟩ := hv
        exact k_iret (wq_M τ ad) hx hb hr hlk hw hM c12 hv dX12_goal_140
      · have hv := hv.2 b11
        refine lv_iload hx hb dX12_goal_43 (lv_at hl 6 rfl) ?_
        obtain ⟨c13, hv⟩ := hv
        refine r_if_ne (tgt := 58) hx hb dX12_goal_45 (by decide) c13  (fun b14 => ?_) (fun b14 => ?_)
        · have hv := hv.1 b14
          exact J58 _ ih  v4 v5 v6 v8 M7 _ _ _ hM hv hw (lv_sub hl [0, 1, 2, 3, 4, 5, 7] rfl)
        · have hv := hv.2 b14
          refine lv_aload_n hx hb dX12_goal_48 rfl (lv_at hl 0 rfl) ?_
          refine gf_X12_20 hx hb hC hw 1 (gM_1 τ ad M7) rfl dX12_goal_49 ?_
          refine lv_iload hx hb dX12_goal_52 (lv_at hl 7 rfl) ?_
          obtain ⟨c30, hv⟩ := hv
          obtain ⟨c31, hv⟩ := hv
          refine r_zald hx hb hC hw 2 (gZ_M aM_2 τ ad M7) c30 c31 (by decide) dX12_goal_54 ?_
          refine r_top (fun x32 e32 => ?_)
          have g32 : iR x32 := by rw [e32]; exact hM.get aM_2.pos _
          have hv := hv x32 e32 g32
          refine r_if_eq (tgt := 62) hx hb dX12_goal_55 (by decide) g32  (fun b33 => ?_) (fun b33 => ?_)
          · have hv := hv.1 b33
            refine r_iconst hx hb dX12_goal_62 ?_
            exact J63 _ ih  v4 v5 v6 v8 0 M7 _ _ _ hM hv hw (lv_sub hl [0, 1, 2, 3, 4, 5, 7] rfl)
          · have hv := hv.2 b33
            exact J58 _ ih  v4 v5 v6 v8 M7 _ _ _ hM hv hw (lv_sub hl [0, 1, 2, 3, 4, 5, 7] rfl)
  refine lv_aload_n hx hb dX12_goal_0 rfl (lv_at hl 1 rfl) ?_
  refine lv_iload_n hx hb dX12_goal_1 rfl (lv_at hl 2 rfl) ?_
  obtain ⟨c1, hv⟩ := hv
  obtain ⟨c2, hv⟩ := hv
  refine r_iald hx hb hC hw k1 (gI_M hk1 τ ad M) c1 c2 (by decide) dX12_goal_2 ?_
  refine r_top (fun x3 e3 => ?_)
  have g3 : iR x3 := by rw [e3]; exact hM.get hk1.pos _
  have hv := hv x3 e3 g3
  refine lv_istore (lv' := [(4, .int (iI x3)), (0, .ref (ad 1)), (1, .ref (ad k1)), (2, .int (iI p2)), (3, .int (iI p3))]) hx hb dX12_goal_3 hl (by decide) rfl (fun ls hl => ?_)
  refine lv_iload hx hb dX12_goal_5 (lv_at hl 0 rfl) ?_
  refine lv_istore (lv' := [(5, .int (iI x3)), (4, .int (iI x3)), (0, .ref (ad 1)), (1, .ref (ad k1)), (2, .int (iI p2)), (3, .int (iI p3))]) hx hb dX12_goal_7 hl (by decide) rfl (fun ls hl => ?_)
  refine r_iconst hx hb dX12_goal_9 ?_
  refine lv_istore (lv' := [(6, .int (iI 0)), (5, .int (iI x3)), (4, .int (iI x3)), (0, .ref (ad 1)), (1, .ref (ad k1)), (2, .int (iI p2)), (3, .int (iI p3))]) hx hb dX12_goal_10 hl (by decide) rfl (fun ls hl => ?_)
  refine lv_aload_n hx hb dX12_goal_12 rfl (lv_at hl 3 rfl) ?_
  refine gf_X12_20 hx hb hC hw 1 (gM_1 τ ad M) rfl dX12_goal_13 ?_
  refine lv_iload hx hb dX12_goal_16 (lv_at hl 2 rfl) ?_
  obtain ⟨c4, hv⟩ := hv
  obtain ⟨c5, hv⟩ := hv
  refine r_zald hx hb hC hw 2 (gZ_M aM_2 τ ad M) c4 c5 (by decide) dX12_goal_18 ?_
  refine r_top (fun x6 e6 => ?_)
  have g6 : iR x6 := by rw [e6]; exact hM.get aM_2.pos _
  have hv := hv x6 e6 g6
  refine lv_istore (lv' := [(7, .int (iI x6)), (6, .int (iI 0)), (5, .int (iI x3)), (4, .int (iI x3)), (0, .ref (ad 1)), (1, .ref (ad k1)), (2, .int (iI p2)), (3, .int (iI p3))]) hx hb dX12_goal_19 hl (by decide) rfl (fun ls hl => ?_)
  refine lv_iload hx hb dX12_goal_21 (lv_at hl 3 rfl) ?_
  refine r_iconst hx hb dX12_goal_23 ?_
  refine r_iadd (z := (x3 + 1)) hx hb dX12_goal_24 rfl ?_
  refine lv_istore (lv' := [(8, .int (iI (x3 + 1))), (7, .int (iI x6)), (6, .int (iI 0)), (5, .int (iI x3)), (4, .int (iI x3)), (0, .ref (ad 1)), (1, .ref (ad k1)), (2, .int (iI p2)), (3, .int (iI p3))]) hx hb dX12_goal_25 hl (by decide) rfl (fun ls hl => ?_)
  obtain ⟨n34, hv⟩ := hv
  refine L27  n34 x3 x3 0 x6 (x3 + 1) M _ _ _ hM hv hw (lv_sub hl [5, 6, 8, 4, 3, 2, 1, 0] rfl)
set_option maxHeartbeats 4000000 in
set_option maxRecDepth 100000 in
theorem mX12_hearseGoes (l : Launch) (D : va_G) (τ : Nat → ClassId) (ad : Nat → Nat) (sA sV : Nat → Nat) (sz : Nat) (k1 : Nat) (p2 : Int) (hk1 : MI 38 k1) (hp2 : iR p2) (M : Mem) (hM : MR M) (Q : Mem → Prop) (hv : qX12_hearseGoes k1 p2 M Q) : Met l yX12_hearseGoes (lw_w yX12_hearseGoes cX12_hearseGoes 4 none) (rmk 5 0 0) (kPc D τ sA sV (WM τ ad M) sz [.ref (ad 1), .ref (ad k1), .int (iI p2)]) (gQv D (EQv (WM τ ad) MR Q) (va_A (WM τ ad M) sz)) 0 0 (va_A (WM τ ad M) sz) := by
  refine k_met (ret := none) (Qc := gQv D (EQv (WM τ ad) MR Q)) (by decide +kernel) (Nat.le_of_ble_eq_true rfl) ?_
  intro p e s m args below meth c A ls hx hb hml hr hlk hnm hC hLS hA hw hl
  have hC : cx D τ s m args RX12 := hC
  have hl : lv_has ls 4 [(0, .ref (ad 1)), (1, .ref (ad k1)), (2, .int (iI p2))] := hl
  unfold qX12_hearseGoes at hv
  refine lv_aload_n hx hb dX12_hearseGoes_0 rfl (lv_at hl 0 rfl) ?_
  refine lv_aload_n hx hb dX12_hearseGoes_1 rfl (lv_at hl 1 rfl) ?_
  refine lv_iload_n hx hb dX12_hearseGoes_2 rfl (lv_at hl 2 rfl) ?_
  refine lv_aload_n hx hb dX12_hearseGoes_3 rfl (lv_at hl 0 rfl) ?_
  refine lv_aload_n hx hb dX12_hearseGoes_4 rfl (lv_at hl 1 rfl) ?_
  refine lv_iload_n hx hb dX12_hearseGoes_5 rfl (lv_at hl 2 rfl) ?_
  refine k_cVi (wq_M τ ad) hx hb hml hC hLS hA hw hl.1 (mX12_paceOf l D τ ad sA sV _ k1 p2 hk1 hp2 M hM _ hv) kX12_paceOf ml_X12_302 rfl (gM_1 τ ad M) rfl rfl (Nat.le_of_ble_eq_true rfl) (rm_ok (by decide) (by decide)) ⟨Nat.zero_le _, Nat.zero_le _⟩ dX12_hearseGoes_6 (fun x1 M1 H locs g1 hM hv hw => ?_)
  have hv := hv g1
  refine k_cVi (wq_M τ ad) hx hb hml hC hLS hA hw hl.1 (mX12_goal l D τ ad sA sV _ k1 p2 x1 hk1 hp2 g1 M1 hM _ hv) kX12_goal ml_X12_324 rfl (gM_1 τ ad M1) rfl rfl (Nat.le_of_ble_eq_true rfl) (rm_ok (by decide) (by decide)) ⟨Nat.zero_le _, Nat.zero_le _⟩ dX12_hearseGoes_9 (fun x2 M2 H locs g2 hM hv hw => ?_)
  have hv := hv g2
  refine lv_istore_n (lv' := [(3, .int (iI x2)), (0, .ref (ad 1)), (1, .ref (ad k1)), (2, .int (iI p2))]) hx hb dX12_hearseGoes_12 rfl hl (by decide) rfl (fun ls hl => ?_)
  refine lv_iload_n hx hb dX12_hearseGoes_13 rfl (lv_at hl 0 rfl) ?_
  refine lv_aload_n hx hb dX12_hearseGoes_14 rfl (lv_at hl 2 rfl) ?_
  refine lv_iload_n hx hb dX12_hearseGoes_15 rfl (lv_at hl 3 rfl) ?_
  obtain ⟨c3, hv⟩ := hv
  obtain ⟨c4, hv⟩ := hv
  refine r_iald hx hb hC hw k1 (gI_M hk1 τ ad M2) c3 c4 (by decide) dX12_hearseGoes_16 ?_
  refine r_top (fun x5 e5 => ?_)
  have g5 : iR x5 := by rw [e5]; exact hM.get hk1.pos _
  have hv := hv x5 e5 g5
  refine r_icmp_ne (tgt := 43) hx hb dX12_hearseGoes_17 (by decide) g2 g5 (fun b6 => ?_) (fun b6 => ?_)
  · have hv := hv.1 b6
    refine lv_iload_n hx hb dX12_hearseGoes_43 rfl (lv_at hl 0 rfl) ?_
    refine lv_aload_n hx hb dX12_hearseGoes_44 rfl (lv_at hl 1 rfl) ?_
    refine k_cVi (wq_M τ ad) hx hb hml hC hLS hA hw hl.1 (mX12_gate l D τ ad sA sV _   M2 hM _ hv) kX12_gate ml_X12_192 rfl (gM_1 τ ad M2) rfl rfl (Nat.le_of_ble_eq_true rfl) (rm_ok (by decide) (by decide)) ⟨Nat.zero_le _, Nat.zero_le _⟩ dX12_hearseGoes_45 (fun x7 M7 H locs g7 hM hv hw => ?_)
    have hv := hv g7
    refine r_icmp_ne (tgt := 76) hx hb dX12_hearseGoes_48 (by decide) g2 g7 (fun b8 => ?_) (fun b8 => ?_)
    · have hv := hv.1 b8
      refine lv_aload_n hx hb dX12_hearseGoes_76 rfl (lv_at hl 2 rfl) ?_
      refine lv_iload_n hx hb dX12_hearseGoes_77 rfl (lv_at hl 3 rfl) ?_
      refine lv_iload_n hx hb dX12_hearseGoes_78 rfl (lv_at hl 0 rfl) ?_
      obtain ⟨M9, e9⟩ : ∃ M9 : Mem, M9 = up2 M7 k1 p2 x2 := ⟨_, rfl⟩
      have hv := hv M9 e9
      refine r_iast (ws' := (WM τ ad M9)) hx hb hC hw k1 (gI_M hk1 τ ad M7) c3 c4 (by decide) (by rw [e9]; exact sI_M hk1 τ ad M7 _ _) dX12_hearseGoes_79 (fun H locs hw => ?_)
      have hM : MR M9 := by rw [e9]; exact hM.put hk1.pos g2
      exact k_vret (wq_M τ ad) hx hb hr hlk hw hM hv dX12_hearseGoes_80
    · have hv := hv.2 b8
      refine lv_aload_n hx hb dX12_hearseGoes_51 rfl (lv_at hl 2 rfl) ?_
      refine r_bipush hx hb dX12_hearseGoes_52 (by decide +kernel) ?_
      refine lv_dup2_11 hx hb dX12_hearseGoes_54 rfl rfl ?_
      refine r_iald hx hb hC hw k1 (gI_M hk1 τ ad M7) (by decide) (by decide) (by decide) dX12_hearseGoes_55 ?_
      refine r_top (fun x10 e10 => ?_)
      have g10 : iR x10 := by rw [e10]; exact hM.get hk1.pos _
      have hv := hv x10 e10 g10
      refine r_iconst hx hb dX12_hearseGoes_56 ?_
      refine r_iaddW hx hb dX12_hearseGoes_57 (fun x11 e11 g11 => ?_)
      have hv := hv x11 e11 g11
      obtain ⟨M12, e12⟩ : ∃ M12 : Mem, M12 = up2 M7 k1 12 x11 := ⟨_, rfl⟩
      have hv := hv M12 e12
      refine r_iast (ws' := (WM τ ad M12)) hx hb hC hw k1 (gI_M hk1 τ ad M7) (by decide) (by decide) (by decide) (by rw [e12]; exact sI_M hk1 τ ad M7 _ _) dX12_hearseGoes_58 (fun H locs hw => ?_)
      have hM : MR M12 := by rw [e12]; exact hM.put hk1.pos g11
      refine lv_aload_n hx hb dX12_hearseGoes_59 rfl (lv_at hl 2 rfl) ?_
      refine r_bipush hx hb dX12_hearseGoes_60 (by decide +kernel) ?_
      refine lv_iload_n hx hb dX12_hearseGoes_62 rfl (lv_at hl 3 rfl) ?_
      refine r_iadd (z := (6 + p2)) hx hb dX12_hearseGoes_63 rfl ?_
      refine lv_aload_n hx hb dX12_hearseGoes_64 rfl (lv_at hl 2 rfl) ?_
      refine r_bipush hx hb dX12_hearseGoes_65 (by decide +kernel) ?_
      refine r_iald hx hb hC hw k1 (gI_M hk1 τ ad M12) (by decide) (by decide) (by decide) dX12_hearseGoes_67 ?_
      refine r_top (fun x13 e13 => ?_)
      have g13 : iR x13 := by rw [e13]; exact hM.get hk1.pos _
      have hv := hv x13 e13 g13
      obtain ⟨c14, hv⟩ := hv
      obtain ⟨c15, hv⟩ := hv
      obtain ⟨M16, e16⟩ : ∃ M16 : Mem, M16 = up2 M12 k1 (6 + p2) x13 := ⟨_, rfl⟩
      have hv := hv M16 e16
      refine r_iast (ws' := (WM τ ad M16)) hx hb hC hw k1 (gI_M hk1 τ ad M12) c14 c15 (by decide) (by rw [e16]; exact sI_M hk1 τ ad M12 _ _) dX12_hearseGoes_68 (fun H locs hw => ?_)
      have hM : MR M16 := by rw [e16]; exact hM.put hk1.pos g13
      refine lv_aload_n hx hb dX12_hearseGoes_69 rfl (lv_at hl 2 rfl) ?_
      refine lv_iload_n hx hb dX12_hearseGoes_70 rfl (lv_at hl 3 rfl) ?_
      refine r_iconst hx hb dX12_hearseGoes_71 ?_
      obtain ⟨M17, e17⟩ : ∃ M17 : Mem, M17 = up2 M16 k1 p2 (-1) := ⟨_, rfl⟩
      have hv := hv M17 e17
      refine r_iast (ws' := (WM τ ad M17)) hx hb hC hw k1 (gI_M hk1 τ ad M16) c3 c4 (by decide) (by rw [e17]; exact sI_M hk1 τ ad M16 _ _) dX12_hearseGoes_72 (fun H locs hw => ?_)
      have hM : MR M17 := by rw [e17]; exact hM.put hk1.pos (by decide)
      refine lv_goto (tgt := 80) hx hb dX12_hearseGoes_73 (by decide) ?_
      exact k_vret (wq_M τ ad) hx hb hr hlk hw hM hv dX12_hearseGoes_80
  · have hv := hv.2 b6
    refine lv_aload_n hx hb dX12_hearseGoes_20 rfl (lv_at hl 1 rfl) ?_
    refine lv_dup hx hb dX12_hearseGoes_21 rfl ?_
    refine gf_X12_327 hx hb hC hw 1 (gM_1 τ ad M2) rfl dX12_hearseGoes_22 ?_
    refine r_top (fun x18 e18 => ?_)
    have g18 : iR x18 := by rw [e18]; exact hM.get (by decide) _
    have hv := hv x18 e18 g18
    refine r_iconst hx hb dX12_hearseGoes_25 ?_
    refine r_iaddW hx hb dX12_hearseGoes_26 (fun x19 e19 g19 => ?_)
    have hv := hv x19 e19 g19
    obtain ⟨M20, e20⟩ : ∃ M20 : Mem, M20 = up2 M2 1 30 x19 := ⟨_, rfl⟩
    have hv := hv M20 e20
    refine pf_X12_327 (ws' := (WM τ ad M20)) hx hb hC hw 1 (gM_1 τ ad M2) (Nat.le_of_ble_eq_true rfl) (by rw [e20]; exact sM_1_30 τ ad M2 _) dX12_hearseGoes_27 (fun H locs hw => ?_)
    have hM : MR M20 := by rw [e20]; exact hM.put (by decide) g19
    refine lv_aload_n hx hb dX12_hearseGoes_30 rfl (lv_at hl 1 rfl) ?_
    refine gf_X12_64 hx hb hC hw 1 (gM_1 τ ad M20) rfl dX12_hearseGoes_31 ?_
    refine lv_iload_n hx hb dX12_hearseGoes_34 rfl (lv_at hl 0 rfl) ?_
    refine lv_dup2_11 hx hb dX12_hearseGoes_35 rfl rfl ?_
    obtain ⟨c21, hv⟩ := hv
    obtain ⟨c22, hv⟩ := hv
    refine r_iald hx hb hC hw 16 (gI_M aM_16 τ ad M20) c21 c22 (by decide) dX12_hearseGoes_36 ?_
    refine r_top (fun x23 e23 => ?_)
    have g23 : iR x23 := by rw [e23]; exact hM.get aM_16.pos _
    have hv := hv x23 e23 g23
    refine r_iconst hx hb dX12_hearseGoes_37 ?_
    refine r_iaddW hx hb dX12_hearseGoes_38 (fun x24 e24 g24 => ?_)
    have hv := hv x24 e24 g24
    obtain ⟨M25, e25⟩ : ∃ M25 : Mem, M25 = up2 M20 16 x2 x24 := ⟨_, rfl⟩
    have hv := hv M25 e25
    refine r_iast (ws' := (WM τ ad M25)) hx hb hC hw 16 (gI_M aM_16 τ ad M20) c21 c22 (by decide) (by rw [e25]; exact sI_M aM_16 τ ad M20 _ _) dX12_hearseGoes_39 (fun H locs hw => ?_)
    have hM : MR M25 := by rw [e25]; exact hM.put aM_16.pos g24
    refine lv_goto (tgt := 80) hx hb dX12_hearseGoes_40 (by decide) ?_
    exact k_vret (wq_M τ ad) hx hb hr hlk hw hM hv dX12_hearseGoes_80
set_option maxHeartbeats 4000000 in
set_option maxRecDepth 100000 in
theorem mX12_laysLine (l : Launch) (D : va_G) (τ : Nat → ClassId) (ad : Nat → Nat) (sA sV : Nat → Nat) (sz : Nat) (k1 : Nat) (hk1 : MI 38 k1) (M : Mem) (hM : MR M) (Q : Mem → Prop) (hv : qX12_laysLine k1 M Q) : Met l yX12_laysLine (lw_w yX12_laysLine cX12_laysLine 4 none) (rmk 2 0 0) (kPc D τ sA sV (WM τ ad M) sz [.ref (ad 1), .ref (ad k1)]) (gQv D (EQv (WM τ ad) MR Q) (va_A (WM τ ad M) sz)) 0 0 (va_A (WM τ ad M) sz) := by
  refine k_met (ret := none) (Qc := gQv D (EQv (WM τ ad) MR Q)) (by decide +kernel) (Nat.le_of_ble_eq_true rfl) ?_
  intro p e s m args below meth c A ls hx hb hml hr hlk hnm hC hLS hA hw hl
  have hC : cx D τ s m args RX12 := hC
  have hl : lv_has ls 4 [(0, .ref (ad 1)), (1, .ref (ad k1))] := hl
  unfold qX12_laysLine at hv
  have L12 : ∀ (n : Nat) (v2 : Int) (M : Mem) (H : Heap) (locs : List Loc) (ls : Array Slot), MR M → qX12_laysLine_L12 k1  Q n v2 M → wS D A s.heap (WM τ ad M) H locs → lv_has ls 4 [(0, .ref (ad 1)), (1, .ref (ad k1)), (2, .int (iI v2))] → W p l e (rmk 2 0 0) s m args below meth c H locs 0 0 (MQ below (gQv D (EQv (WM τ ad) MR Q) A) args s 0 0 A) (F0 m 12 ls []) := by
    intro n
    induction n with
    | zero => intro v2 M H locs ls hM hv; rw [qX12_laysLine_L12] at hv; exact hv.elim
    | succ n ih =>
      intro v2 M H locs ls hM hv hw hl
      rw [qX12_laysLine_L12] at hv
      refine lv_iload_n hx hb dX12_laysLine_12 rfl (lv_at hl 2 rfl) ?_
      obtain ⟨c3, hv⟩ := hv
      refine r_if_lt (tgt := 53) hx hb dX12_laysLine_13 (by decide) c3  (fun b4 => ?_) (fun b4 => ?_)
      · have hv := hv.1 b4
        exact k_vret (wq_M τ ad) hx hb hr hlk hw hM hv dX12_laysLine_53
      · have hv := hv.2 b4
        refine lv_aload_n hx hb dX12_laysLine_16 rfl (lv_at hl 0 rfl) ?_
        refine lv_aload_n hx hb dX12_laysLine_17 rfl (lv_at hl 1 rfl) ?_
        refine lv_iload_n hx hb dX12_laysLine_18 rfl (lv_at hl 2 rfl) ?_
        refine k_cVi (wq_M τ ad) hx hb hml hC hLS hA hw hl.1 (mX12_onCell l D τ ad sA sV _ k1 v2 hk1 c3 M hM _ hv) kX12_onCell ml_X12_195 rfl (gM_1 τ ad M) rfl rfl (Nat.le_of_ble_eq_true rfl) (rm_ok (by decide) (by decide)) ⟨Nat.zero_le _, Nat.zero_le _⟩ dX12_laysLine_19 (fun x5 M5 H locs g5 hM hv hw => ?_)
        have hv := hv g5
        refine lv_istore_n (lv' := [(3, .int (iI x5)), (0, .ref (ad 1)), (1, .ref (ad k1)), (2, .int (iI v2))]) hx hb dX12_laysLine_22 rfl hl (by decide) rfl (fun ls hl => ?_)
        refine lv_iload_n hx hb dX12_laysLine_23 rfl (lv_at hl 0 rfl) ?_
        refine r_if_lt (tgt := 47) hx hb dX12_laysLine_24 (by decide) g5  (fun b6 => ?_) (fun b6 => ?_)
        · have hv := hv.1 b6
          refine r_iinc (v := (v2 + (-1))) (lv' := [(2, .int (iI (v2 + (-1)))), (3, .int (iI x5)), (0, .ref (ad 1)), (1, .ref (ad k1))]) hx hb dX12_laysLine_47 hl (k := 3) rfl rfl (by decide) rfl (fun ls hl => ?_)
          refine lv_goto (tgt := 12) hx hb dX12_laysLine_50 (by decide) ?_
          exact ih (v2 + (-1)) M5 _ _ _ hM hv hw (lv_sub hl [2, 3, 0] rfl)
        · have hv := hv.2 b6
          refine lv_aload_n hx hb dX12_laysLine_27 rfl (lv_at hl 1 rfl) ?_
          refine gf_X12_70 hx hb hC hw 1 (gM_1 τ ad M5) rfl dX12_laysLine_28 ?_
          refine lv_aload_n hx hb dX12_laysLine_31 rfl (lv_at hl 1 rfl) ?_
          refine gf_X12_321 hx hb hC hw 1 (gM_1 τ ad M5) rfl dX12_laysLine_32 ?_
          refine r_top (fun x7 e7 => ?_)
          have g7 : iR x7 := by rw [e7]; exact hM.get (by decide) _
          have hv := hv x7 e7 g7
          refine lv_iload_n hx hb dX12_laysLine_35 rfl (lv_at hl 0 rfl) ?_
          obtain ⟨c8, hv⟩ := hv
          obtain ⟨c9, hv⟩ := hv
          obtain ⟨M10, e10⟩ : ∃ M10 : Mem, M10 = up2 M5 18 x7 x5 := ⟨_, rfl⟩
          have hv := hv M10 e10
          refine r_iast (ws' := (WM τ ad M10)) hx hb hC hw 18 (gI_M aM_18 τ ad M5) c8 c9 (by decide) (by rw [e10]; exact sI_M aM_18 τ ad M5 _ _) dX12_laysLine_36 (fun H locs hw => ?_)
          have hM : MR M10 := by rw [e10]; exact hM.put aM_18.pos g5
          refine lv_aload_n hx hb dX12_laysLine_37 rfl (lv_at hl 1 rfl) ?_
          refine lv_dup hx hb dX12_laysLine_38 rfl ?_
          refine gf_X12_321 hx hb hC hw 1 (gM_1 τ ad M10) rfl dX12_laysLine_39 ?_
          refine r_top (fun x11 e11 => ?_)
          have g11 : iR x11 := by rw [e11]; exact hM.get (by decide) _
          have hv := hv x11 e11 g11
          refine r_iconst hx hb dX12_laysLine_42 ?_
          refine r_iadd (z := (x11 + 1)) hx hb dX12_laysLine_43 rfl ?_
          obtain ⟨c12, hv⟩ := hv
          obtain ⟨M13, e13⟩ : ∃ M13 : Mem, M13 = up2 M10 1 35 (x11 + 1) := ⟨_, rfl⟩
          have hv := hv M13 e13
          refine pf_X12_321 (ws' := (WM τ ad M13)) hx hb hC hw 1 (gM_1 τ ad M10) (Nat.le_of_ble_eq_true rfl) (by rw [e13]; exact sM_1_35 τ ad M10 _) dX12_laysLine_44 (fun H locs hw => ?_)
          have hM : MR M13 := by rw [e13]; exact hM.put (by decide) c12
          refine r_iinc (v := (v2 + (-1))) (lv' := [(2, .int (iI (v2 + (-1)))), (3, .int (iI x5)), (0, .ref (ad 1)), (1, .ref (ad k1))]) hx hb dX12_laysLine_47 hl (k := 3) rfl rfl (by decide) rfl (fun ls hl => ?_)
          refine lv_goto (tgt := 12) hx hb dX12_laysLine_50 (by decide) ?_
          exact ih (v2 + (-1)) M13 _ _ _ hM hv hw (lv_sub hl [2, 3, 0] rfl)
  refine lv_aload_n hx hb dX12_laysLine_0 rfl (lv_at hl 0 rfl) ?_
  refine r_iconst hx hb dX12_laysLine_1 ?_
  obtain ⟨M1, e1⟩ : ∃ M1 : Mem, M1 = up2 M 1 35 0 := ⟨_, rfl⟩
  have hv := hv M1 e1
  refine pf_X12_321 (ws' := (WM τ ad M1)) hx hb hC hw 1 (gM_1 τ ad M) (Nat.le_of_ble_eq_true rfl) (by rw [e1]; exact sM_1_35 τ ad M _) dX12_laysLine_2 (fun H locs hw => ?_)
  have hM : MR M1 := by rw [e1]; exact hM.put (by decide) (by decide)
  refine lv_aload_n hx hb dX12_laysLine_5 rfl (lv_at hl 0 rfl) ?_
  refine k_cVi (wq_M τ ad) hx hb hml hC hLS hA hw hl.1 (mX12_gate l D τ ad sA sV _   M1 hM _ hv) kX12_gate ml_X12_192 rfl (gM_1 τ ad M1) rfl rfl (Nat.le_of_ble_eq_true rfl) (rm_ok (by decide) (by decide)) ⟨Nat.zero_le _, Nat.zero_le _⟩ dX12_laysLine_6 (fun x2 M2 H locs g2 hM hv hw => ?_)
  have hv := hv g2
  refine r_iconst hx hb dX12_laysLine_9 ?_
  refine r_isub (z := (x2 - 1)) hx hb dX12_laysLine_10 rfl ?_
  refine lv_istore_n (lv' := [(2, .int (iI (x2 - 1))), (0, .ref (ad 1)), (1, .ref (ad k1))]) hx hb dX12_laysLine_11 rfl hl (by decide) rfl (fun ls hl => ?_)
  obtain ⟨n14, hv⟩ := hv
  refine L12  n14 (x2 - 1) M2 _ _ _ hM hv hw (lv_sub hl [1, 2, 0] rfl)
set_option maxHeartbeats 4000000 in
set_option maxRecDepth 100000 in
theorem mX12_mournerGoes (l : Launch) (D : va_G) (τ : Nat → ClassId) (ad : Nat → Nat) (sA sV : Nat → Nat) (sz : Nat) (k1 : Nat) (p2 : Int) (hk1 : MI 38 k1) (hp2 : iR p2) (M : Mem) (hM : MR M) (Q : Mem → Prop) (hv : qX12_mournerGoes k1 p2 M Q) : Met l yX12_mournerGoes (lw_w yX12_mournerGoes cX12_mournerGoes 6 none) (rmk 3 0 0) (kPc D τ sA sV (WM τ ad M) sz [.ref (ad 1), .ref (ad k1), .int (iI p2)]) (gQv D (EQv (WM τ ad) MR Q) (va_A (WM τ ad M) sz)) 0 0 (va_A (WM τ ad M) sz) := by
  refine k_met (ret := none) (Qc := gQv D (EQv (WM τ ad) MR Q)) (by decide +kernel) (Nat.le_of_ble_eq_true rfl) ?_
  intro p e s m args below meth c A ls hx hb hml hr hlk hnm hC hLS hA hw hl
  have hC : cx D τ s m args RX12 := hC
  have hl : lv_has ls 6 [(0, .ref (ad 1)), (1, .ref (ad k1)), (2, .int (iI p2))] := hl
  unfold qX12_mournerGoes at hv
  have J145 : ∀ (t0 : Int) (t1 : Int) (M : Mem) (H : Heap) (locs : List Loc) (ls : Array Slot), MR M → qX12_mournerGoes_J145 k1 p2 Q t0 t1 M → wS D A s.heap (WM τ ad M) H locs → lv_has ls 6 [] → W p l e (rmk 3 0 0) s m args below meth c H locs 0 0 (MQ below (gQv D (EQv (WM τ ad) MR Q) A) args s 0 0 A) (F0 m 145 ls [.int (iI t0), .int (iI t1), .ref (ad k1)]) := by
    intro t0 t1 M H locs ls hM hv hw hl
    unfold qX12_mournerGoes_J145 at hv
    obtain ⟨c20, hv⟩ := hv
    obtain ⟨c21, hv⟩ := hv
    obtain ⟨c22, hv⟩ := hv
    obtain ⟨M23, e23⟩ : ∃ M23 : Mem, M23 = up2 M k1 t1 t0 := ⟨_, rfl⟩
    have hv := hv M23 e23
    refine r_iast (ws' := (WM τ ad M23)) hx hb hC hw k1 (gI_M hk1 τ ad M) c20 c21 (by decide) (by rw [e23]; exact sI_M hk1 τ ad M _ _) dX12_mournerGoes_145 (fun H locs hw => ?_)
    have hM : MR M23 := by rw [e23]; exact hM.put hk1.pos c22
    exact k_vret (wq_M τ ad) hx hb hr hlk hw hM hv dX12_mournerGoes_146
  have J105 : ∀ (v3 : Int) (v4 : Int) (M : Mem) (H : Heap) (locs : List Loc) (ls : Array Slot), MR M → qX12_mournerGoes_J105 k1 p2 Q v3 v4 M → wS D A s.heap (WM τ ad M) H locs → lv_has ls 6 [(1, .ref (ad k1)), (2, .int (iI p2)), (3, .int (iI v3)), (4, .int (iI v4))] → W p l e (rmk 3 0 0) s m args below meth c H locs 0 0 (MQ below (gQv D (EQv (WM τ ad) MR Q) A) args s 0 0 A) (F0 m 105 ls []) := by
    intro v3 v4 M H locs ls hM hv hw hl
    unfold qX12_mournerGoes_J105 at hv
    refine lv_iload_n hx hb dX12_mournerGoes_105 rfl (lv_at hl 2 rfl) ?_
    obtain ⟨c10, hv⟩ := hv
    refine r_if_lt (tgt := 146) hx hb dX12_mournerGoes_106 (by decide) c10  (fun b11 => ?_) (fun b11 => ?_)
    · have hv := hv.1 b11
      exact k_vret (wq_M τ ad) hx hb hr hlk hw hM hv dX12_mournerGoes_146
    · have hv := hv.2 b11
      refine lv_aload_n hx hb dX12_mournerGoes_109 rfl (lv_at hl 0 rfl) ?_
      refine r_bipush hx hb dX12_mournerGoes_110 (by decide +kernel) ?_
      refine lv_iload_n hx hb dX12_mournerGoes_112 rfl (lv_at hl 1 rfl) ?_
      refine r_iadd (z := (13 + p2)) hx hb dX12_mournerGoes_113 rfl ?_
      refine lv_aload_n hx hb dX12_mournerGoes_114 rfl (lv_at hl 0 rfl) ?_
      refine lv_iload_n hx hb dX12_mournerGoes_115 rfl (lv_at hl 2 rfl) ?_
      obtain ⟨c12, hv⟩ := hv
      obtain ⟨c13, hv⟩ := hv
      refine r_iald hx hb hC hw k1 (gI_M hk1 τ ad M) c12 c13 (by decide) dX12_mournerGoes_116 ?_
      refine r_top (fun x14 e14 => ?_)
      have g14 : iR x14 := by rw [e14]; exact hM.get hk1.pos _
      have hv := hv x14 e14 g14
      refine lv_iload hx hb dX12_mournerGoes_117 (lv_at hl 3 rfl) ?_
      obtain ⟨c15, hv⟩ := hv
      refine r_icmp_le (tgt := 135) hx hb dX12_mournerGoes_119 (by decide) g14 c15 (fun b16 => ?_) (fun b16 => ?_)
      · have hv := hv.1 b16
        refine lv_aload_n hx hb dX12_mournerGoes_135 rfl (lv_at hl 0 rfl) ?_
        refine lv_iload_n hx hb dX12_mournerGoes_136 rfl (lv_at hl 2 rfl) ?_
        refine r_iald hx hb hC hw k1 (gI_M hk1 τ ad M) c12 c13 (by decide) dX12_mournerGoes_137 ?_
        refine r_top (fun x17 e17 => ?_)
        have g17 : iR x17 := by rw [e17]; exact hM.get hk1.pos _
        have hv := hv x17 e17 g17
        refine lv_iload hx hb dX12_mournerGoes_138 (lv_at hl 3 rfl) ?_
        refine r_iconst hx hb dX12_mournerGoes_140 ?_
        refine r_isub (z := (v4 - 2)) hx hb dX12_mournerGoes_141 rfl ?_
        obtain ⟨c18, hv⟩ := hv
        refine r_mmaxF hx hb hml hC hl.1 ml_X12_287 sm_max in_J9 cd_max (by decide) (Nat.le_of_ble_eq_true rfl) (Nat.zero_le _) (Nat.zero_le _) g17 c18 dX12_mournerGoes_142 (fun x19 e19 g19 => ?_)
        have hv := hv x19 e19 g19
        exact J145 x19 (13 + p2) M _ _ _ hM hv hw (lv_sub hl [] rfl)
      · have hv := hv.2 b16
        refine lv_aload_n hx hb dX12_mournerGoes_122 rfl (lv_at hl 0 rfl) ?_
        refine lv_iload_n hx hb dX12_mournerGoes_123 rfl (lv_at hl 2 rfl) ?_
        refine r_iald hx hb hC hw k1 (gI_M hk1 τ ad M) c12 c13 (by decide) dX12_mournerGoes_124 ?_
        refine r_top (fun x24 e24 => ?_)
        have g24 : iR x24 := by rw [e24]; exact hM.get hk1.pos _
        have hv := hv x24 e24 g24
        refine lv_iload hx hb dX12_mournerGoes_125 (lv_at hl 3 rfl) ?_
        refine r_iconst hx hb dX12_mournerGoes_127 ?_
        refine r_iadd (z := (v4 + 2)) hx hb dX12_mournerGoes_128 rfl ?_
        obtain ⟨c25, hv⟩ := hv
        refine r_mminF hx hb hml hC hl.1 ml_X12_145 sm_min in_J9 cd_min (by decide) (Nat.le_of_ble_eq_true rfl) (Nat.zero_le _) (Nat.zero_le _) g24 c25 dX12_mournerGoes_129 (fun x26 e26 g26 => ?_)
        have hv := hv x26 e26 g26
        refine lv_goto (tgt := 145) hx hb dX12_mournerGoes_132 (by decide) ?_
        exact J145 x26 (13 + p2) M _ _ _ hM hv hw (lv_sub hl [] rfl)
  have J75 : ∀ (v4 : Int) (v5 : Int) (M : Mem) (H : Heap) (locs : List Loc) (ls : Array Slot), MR M → qX12_mournerGoes_J75 k1 p2 Q v4 v5 M → wS D A s.heap (WM τ ad M) H locs → lv_has ls 6 [(0, .ref (ad 1)), (1, .ref (ad k1)), (2, .int (iI p2)), (4, .int (iI v4)), (5, .int (iI v5))] → W p l e (rmk 3 0 0) s m args below meth c H locs 0 0 (MQ below (gQv D (EQv (WM τ ad) MR Q) A) args s 0 0 A) (F0 m 75 ls []) := by
    intro v4 v5 M H locs ls hM hv hw hl
    unfold qX12_mournerGoes_J75 at hv
    refine lv_iload hx hb dX12_mournerGoes_75 (lv_at hl 4 rfl) ?_
    refine lv_istore_n (lv' := [(3, .int (iI v5)), (0, .ref (ad 1)), (1, .ref (ad k1)), (2, .int (iI p2)), (4, .int (iI v4)), (5, .int (iI v5))]) hx hb dX12_mournerGoes_77 rfl hl (by decide) rfl (fun ls hl => ?_)
    refine lv_aload_n hx hb dX12_mournerGoes_78 rfl (lv_at hl 2 rfl) ?_
    refine r_bipush hx hb dX12_mournerGoes_79 (by decide +kernel) ?_
    refine lv_iload_n hx hb dX12_mournerGoes_81 rfl (lv_at hl 3 rfl) ?_
    refine r_iadd (z := (21 + p2)) hx hb dX12_mournerGoes_82 rfl ?_
    refine lv_iload_n hx hb dX12_mournerGoes_83 rfl (lv_at hl 0 rfl) ?_
    obtain ⟨c29, hv⟩ := hv
    obtain ⟨c30, hv⟩ := hv
    obtain ⟨c31, hv⟩ := hv
    obtain ⟨M32, e32⟩ : ∃ M32 : Mem, M32 = up2 M k1 (21 + p2) v5 := ⟨_, rfl⟩
    have hv := hv M32 e32
    refine r_iast (ws' := (WM τ ad M32)) hx hb hC hw k1 (gI_M hk1 τ ad M) c29 c30 (by decide) (by rw [e32]; exact sI_M hk1 τ ad M _ _) dX12_mournerGoes_84 (fun H locs hw => ?_)
    have hM : MR M32 := by rw [e32]; exact hM.put hk1.pos c31
    refine lv_aload_n hx hb dX12_mournerGoes_85 rfl (lv_at hl 1 rfl) ?_
    refine lv_dup hx hb dX12_mournerGoes_86 rfl ?_
    refine gf_X12_330 hx hb hC hw 1 (gM_1 τ ad M32) rfl dX12_mournerGoes_87 ?_
    refine r_top (fun x33 e33 => ?_)
    have g33 : iR x33 := by rw [e33]; exact hM.get (by decide) _
    have hv := hv x33 e33 g33
    refine r_iconst hx hb dX12_mournerGoes_90 ?_
    refine r_iaddW hx hb dX12_mournerGoes_91 (fun x34 e34 g34 => ?_)
    have hv := hv x34 e34 g34
    obtain ⟨M35, e35⟩ : ∃ M35 : Mem, M35 = up2 M32 1 31 x34 := ⟨_, rfl⟩
    have hv := hv M35 e35
    refine pf_X12_330 (ws' := (WM τ ad M35)) hx hb hC hw 1 (gM_1 τ ad M32) (Nat.le_of_ble_eq_true rfl) (by rw [e35]; exact sM_1_31 τ ad M32 _) dX12_mournerGoes_92 (fun H locs hw => ?_)
    have hM : MR M35 := by rw [e35]; exact hM.put (by decide) g34
    refine lv_aload_n hx hb dX12_mournerGoes_95 rfl (lv_at hl 1 rfl) ?_
    refine gf_X12_67 hx hb hC hw 1 (gM_1 τ ad M35) rfl dX12_mournerGoes_96 ?_
    refine lv_iload_n hx hb dX12_mournerGoes_99 rfl (lv_at hl 3 rfl) ?_
    refine lv_dup2_11 hx hb dX12_mournerGoes_100 rfl rfl ?_
    obtain ⟨c36, hv⟩ := hv
    obtain ⟨c37, hv⟩ := hv
    refine r_iald hx hb hC hw 17 (gI_M aM_17 τ ad M35) c36 c37 (by decide) dX12_mournerGoes_101 ?_
    refine r_top (fun x38 e38 => ?_)
    have g38 : iR x38 := by rw [e38]; exact hM.get aM_17.pos _
    have hv := hv x38 e38 g38
    refine r_iconst hx hb dX12_mournerGoes_102 ?_
    refine r_iaddW hx hb dX12_mournerGoes_103 (fun x39 e39 g39 => ?_)
    have hv := hv x39 e39 g39
    obtain ⟨M40, e40⟩ : ∃ M40 : Mem, M40 = up2 M35 17 p2 x39 := ⟨_, rfl⟩
    have hv := hv M40 e40
    refine r_iast (ws' := (WM τ ad M40)) hx hb hC hw 17 (gI_M aM_17 τ ad M35) c36 c37 (by decide) (by rw [e40]; exact sI_M aM_17 τ ad M35 _ _) dX12_mournerGoes_104 (fun H locs hw => ?_)
    have hM : MR M40 := by rw [e40]; exact hM.put aM_17.pos g39
    exact J105 v5 v4 M40 _ _ _ hM hv hw (lv_sub hl [2, 3, 0, 4] rfl)
  have J27 : ∀ (v3 : Int) (M : Mem) (H : Heap) (locs : List Loc) (ls : Array Slot), MR M → qX12_mournerGoes_J27 k1 p2 Q v3 M → wS D A s.heap (WM τ ad M) H locs → lv_has ls 6 [(0, .ref (ad 1)), (1, .ref (ad k1)), (2, .int (iI p2)), (3, .int (iI v3))] → W p l e (rmk 3 0 0) s m args below meth c H locs 0 0 (MQ below (gQv D (EQv (WM τ ad) MR Q) A) args s 0 0 A) (F0 m 27 ls []) := by
    intro v3 M H locs ls hM hv hw hl
    unfold qX12_mournerGoes_J27 at hv
    refine lv_aload_n hx hb dX12_mournerGoes_27 rfl (lv_at hl 1 rfl) ?_
    refine r_bipush hx hb dX12_mournerGoes_28 (by decide +kernel) ?_
    refine lv_iload_n hx hb dX12_mournerGoes_30 rfl (lv_at hl 2 rfl) ?_
    refine r_iadd (z := (13 + p2)) hx hb dX12_mournerGoes_31 rfl ?_
    obtain ⟨c5, hv⟩ := hv
    obtain ⟨c6, hv⟩ := hv
    refine r_iald hx hb hC hw k1 (gI_M hk1 τ ad M) c5 c6 (by decide) dX12_mournerGoes_32 ?_
    refine r_top (fun x7 e7 => ?_)
    have g7 : iR x7 := by rw [e7]; exact hM.get hk1.pos _
    have hv := hv x7 e7 g7
    refine lv_istore (lv' := [(4, .int (iI x7)), (0, .ref (ad 1)), (1, .ref (ad k1)), (2, .int (iI p2)), (3, .int (iI v3))]) hx hb dX12_mournerGoes_33 hl (by decide) rfl (fun ls hl => ?_)
    refine lv_aload_n hx hb dX12_mournerGoes_35 rfl (lv_at hl 1 rfl) ?_
    refine lv_aload_n hx hb dX12_mournerGoes_36 rfl (lv_at hl 2 rfl) ?_
    refine lv_iload hx hb dX12_mournerGoes_37 (lv_at hl 0 rfl) ?_
    refine k_cVi (wq_M τ ad) hx hb hml hC hLS hA hw hl.1 (mX12_nearest l D τ ad sA sV _ k1 x7 hk1 g7 M hM _ hv) kX12_nearest ml_X12_313 rfl (gM_1 τ ad M) rfl rfl (Nat.le_of_ble_eq_true rfl) (rm_ok (by decide) (by decide)) ⟨Nat.zero_le _, Nat.zero_le _⟩ dX12_mournerGoes_39 (fun x8 M8 H locs g8 hM hv hw => ?_)
    have hv := hv g8
    refine lv_istore (lv' := [(5, .int (iI x8)), (4, .int (iI x7)), (0, .ref (ad 1)), (1, .ref (ad k1)), (2, .int (iI p2)), (3, .int (iI v3))]) hx hb dX12_mournerGoes_42 hl (by decide) rfl (fun ls hl => ?_)
    refine lv_iload hx hb dX12_mournerGoes_44 (lv_at hl 0 rfl) ?_
    refine r_if_lt (tgt := 105) hx hb dX12_mournerGoes_46 (by decide) g8  (fun b9 => ?_) (fun b9 => ?_)
    · have hv := hv.1 b9
      exact J105 v3 x7 M8 _ _ _ hM hv hw (lv_sub hl [3, 4, 5, 1] rfl)
    · have hv := hv.2 b9
      refine lv_iload_n hx hb dX12_mournerGoes_49 rfl (lv_at hl 5 rfl) ?_
      obtain ⟨c27, hv⟩ := hv
      refine r_if_lt (tgt := 75) hx hb dX12_mournerGoes_50 (by decide) c27  (fun b28 => ?_) (fun b28 => ?_)
      · have hv := hv.1 b28
        exact J75 x7 x8 M8 _ _ _ hM hv hw (lv_sub hl [2, 3, 4, 1, 0] rfl)
      · have hv := hv.2 b28
        refine lv_aload_n hx hb dX12_mournerGoes_53 rfl (lv_at hl 3 rfl) ?_
        refine lv_iload hx hb dX12_mournerGoes_54 (lv_at hl 0 rfl) ?_
        obtain ⟨c41, hv⟩ := hv
        obtain ⟨c42, hv⟩ := hv
        refine r_iald hx hb hC hw k1 (gI_M hk1 τ ad M8) c41 c42 (by decide) dX12_mournerGoes_56 ?_
        refine r_top (fun x43 e43 => ?_)
        have g43 : iR x43 := by rw [e43]; exact hM.get hk1.pos _
        have hv := hv x43 e43 g43
        refine lv_iload hx hb dX12_mournerGoes_57 (lv_at hl 1 rfl) ?_
        refine r_isub (z := (x43 - x7)) hx hb dX12_mournerGoes_59 rfl ?_
        obtain ⟨c44, hv⟩ := hv
        refine r_mabs hx hb hml hC hl.1 ml_X12_290 sm_abs in_J9 cd_abs (by decide) (Nat.le_of_ble_eq_true rfl) (Nat.zero_le _) (Nat.zero_le _) c44 dX12_mournerGoes_60 (fun x45 e45 g45 => ?_)
        have hv := hv x45 e45 g45
        refine lv_aload_n hx hb dX12_mournerGoes_63 rfl (lv_at hl 3 rfl) ?_
        refine lv_iload_n hx hb dX12_mournerGoes_64 rfl (lv_at hl 5 rfl) ?_
        obtain ⟨c46, hv⟩ := hv
        obtain ⟨c47, hv⟩ := hv
        refine r_iald hx hb hC hw k1 (gI_M hk1 τ ad M8) c46 c47 (by decide) dX12_mournerGoes_65 ?_
        refine r_top (fun x48 e48 => ?_)
        have g48 : iR x48 := by rw [e48]; exact hM.get hk1.pos _
        have hv := hv x48 e48 g48
        refine lv_iload hx hb dX12_mournerGoes_66 (lv_at hl 1 rfl) ?_
        refine r_isub (z := (x48 - x7)) hx hb dX12_mournerGoes_68 rfl ?_
        obtain ⟨c49, hv⟩ := hv
        refine r_mabs hx hb hml hC hl.1 ml_X12_290 sm_abs in_J9 cd_abs (by decide) (Nat.le_of_ble_eq_true rfl) (Nat.zero_le _) (Nat.zero_le _) c49 dX12_mournerGoes_69 (fun x50 e50 g50 => ?_)
        have hv := hv x50 e50 g50
        obtain ⟨c51, hv⟩ := hv
        obtain ⟨c52, hv⟩ := hv
        refine r_icmp_ge (tgt := 105) hx hb dX12_mournerGoes_72 (by decide) c51 c52 (fun b53 => ?_) (fun b53 => ?_)
        · have hv := hv.1 b53
          exact J105 v3 x7 M8 _ _ _ hM hv hw (lv_sub hl [3, 4, 5, 1] rfl)
        · have hv := hv.2 b53
          exact J75 x7 x8 M8 _ _ _ hM hv hw (lv_sub hl [2, 3, 4, 1, 0] rfl)
  refine lv_aload_n hx hb dX12_mournerGoes_0 rfl (lv_at hl 1 rfl) ?_
  refine r_bipush hx hb dX12_mournerGoes_1 (by decide +kernel) ?_
  refine lv_iload_n hx hb dX12_mournerGoes_3 rfl (lv_at hl 2 rfl) ?_
  refine r_iadd (z := (21 + p2)) hx hb dX12_mournerGoes_4 rfl ?_
  obtain ⟨c1, hv⟩ := hv
  obtain ⟨c2, hv⟩ := hv
  refine r_iald hx hb hC hw k1 (gI_M hk1 τ ad M) c1 c2 (by decide) dX12_mournerGoes_5 ?_
  refine r_top (fun x3 e3 => ?_)
  have g3 : iR x3 := by rw [e3]; exact hM.get hk1.pos _
  have hv := hv x3 e3 g3
  refine lv_istore_n (lv' := [(3, .int (iI x3)), (0, .ref (ad 1)), (1, .ref (ad k1)), (2, .int (iI p2))]) hx hb dX12_mournerGoes_6 rfl hl (by decide) rfl (fun ls hl => ?_)
  refine lv_iload_n hx hb dX12_mournerGoes_7 rfl (lv_at hl 0 rfl) ?_
  refine r_if_lt (tgt := 27) hx hb dX12_mournerGoes_8 (by decide) g3  (fun b4 => ?_) (fun b4 => ?_)
  · have hv := hv.1 b4
    exact J27 x3 M _ _ _ hM hv hw (lv_sub hl [1, 2, 3, 0] rfl)
  · have hv := hv.2 b4
    refine lv_aload_n hx hb dX12_mournerGoes_11 rfl (lv_at hl 2 rfl) ?_
    refine lv_iload_n hx hb dX12_mournerGoes_12 rfl (lv_at hl 0 rfl) ?_
    refine k_cSz (wq_M τ ad) hx hb hml hC hLS hA hw hl.1 (mX12_isOn l D τ ad sA sV _ k1 x3 hk1 g3 M hM _ hv) kX12_isOn ml_X12_266 rfl rfl (Nat.le_of_ble_eq_true rfl) (rm_ok (by decide) (by decide)) ⟨Nat.zero_le _, Nat.zero_le _⟩ dX12_mournerGoes_13 (fun x54 M54 H locs g54 z54 hM hv hw => ?_)
    have hv := hv g54 z54
    refine r_if_ne (tgt := 27) hx hb dX12_mournerGoes_16 (by decide) g54  (fun b55 => ?_) (fun b55 => ?_)
    · have hv := hv.1 b55
      exact J27 x3 M54 _ _ _ hM hv hw (lv_sub hl [1, 2, 3, 0] rfl)
    · have hv := hv.2 b55
      refine lv_aload_n hx hb dX12_mournerGoes_19 rfl (lv_at hl 2 rfl) ?_
      refine r_bipush hx hb dX12_mournerGoes_20 (by decide +kernel) ?_
      refine lv_iload_n hx hb dX12_mournerGoes_22 rfl (lv_at hl 3 rfl) ?_
      refine r_iadd (z := (29 + p2)) hx hb dX12_mournerGoes_23 rfl ?_
      refine lv_iload_n hx hb dX12_mournerGoes_24 rfl (lv_at hl 0 rfl) ?_
      obtain ⟨c56, hv⟩ := hv
      obtain ⟨c57, hv⟩ := hv
      obtain ⟨M58, e58⟩ : ∃ M58 : Mem, M58 = up2 M54 k1 (29 + p2) x3 := ⟨_, rfl⟩
      have hv := hv M58 e58
      refine r_iast (ws' := (WM τ ad M58)) hx hb hC hw k1 (gI_M hk1 τ ad M54) c56 c57 (by decide) (by rw [e58]; exact sI_M hk1 τ ad M54 _ _) dX12_mournerGoes_25 (fun H locs hw => ?_)
      have hM : MR M58 := by rw [e58]; exact hM.put hk1.pos g3
      exact k_vret (wq_M τ ad) hx hb hr hlk hw hM hv dX12_mournerGoes_26
set_option maxHeartbeats 4000000 in
set_option maxRecDepth 100000 in
theorem mX12_stepGoes (l : Launch) (D : va_G) (τ : Nat → ClassId) (ad : Nat → Nat) (sA sV : Nat → Nat) (sz : Nat) (k1 : Nat) (hk1 : MI 38 k1) (M : Mem) (hM : MR M) (Q : Mem → Prop) (hv : qX12_stepGoes k1 M Q) : Met l yX12_stepGoes (lw_w yX12_stepGoes cX12_stepGoes 3 none) (rmk 6 0 0) (kPc D τ sA sV (WM τ ad M) sz [.ref (ad 1), .ref (ad k1)]) (gQv D (EQv (WM τ ad) MR Q) (va_A (WM τ ad M) sz)) 0 0 (va_A (WM τ ad M) sz) := by
  refine k_met (ret := none) (Qc := gQv D (EQv (WM τ ad) MR Q)) (by decide +kernel) (Nat.le_of_ble_eq_true rfl) ?_
  intro p e s m args below meth c A ls hx hb hml hr hlk hnm hC hLS hA hw hl
  have hC : cx D τ s m args RX12 := hC
  have hl : lv_has ls 3 [(0, .ref (ad 1)), (1, .ref (ad k1))] := hl
  unfold qX12_stepGoes at hv
  have L7 : ∀ (X32 : Mem → Prop), (∀  (M : Mem) (H : Heap) (locs : List Loc) (ls : Array Slot), MR M → X32  M → wS D A s.heap (WM τ ad M) H locs → lv_has ls 3 [(0, .ref (ad 1)), (1, .ref (ad k1))] → W p l e (rmk 6 0 0) s m args below meth c H locs 0 0 (MQ below (gQv D (EQv (WM τ ad) MR Q) A) args s 0 0 A) (F0 m 32 ls [])) → ∀ (n : Nat) (v2 : Int) (M : Mem) (H : Heap) (locs : List Loc) (ls : Array Slot), MR M → qX12_stepGoes_L7 k1 X32 Q n v2 M → wS D A s.heap (WM τ ad M) H locs → lv_has ls 3 [(0, .ref (ad 1)), (1, .ref (ad k1)), (2, .int (iI v2))] → W p l e (rmk 6 0 0) s m args below meth c H locs 0 0 (MQ below (gQv D (EQv (WM τ ad) MR Q) A) args s 0 0 A) (F0 m 7 ls []) := by
    intro X32 hX32 n
    induction n with
    | zero => intro v2 M H locs ls hM hv; rw [qX12_stepGoes_L7] at hv; exact hv.elim
    | succ n ih =>
      intro v2 M H locs ls hM hv hw hl
      rw [qX12_stepGoes_L7] at hv
      refine lv_iload_n hx hb dX12_stepGoes_7 rfl (lv_at hl 2 rfl) ?_
      refine lv_aload_n hx hb dX12_stepGoes_8 rfl (lv_at hl 0 rfl) ?_
      refine gf_X12_321 hx hb hC hw 1 (gM_1 τ ad M) rfl dX12_stepGoes_9 ?_
      refine r_top (fun x2 e2 => ?_)
      have g2 : iR x2 := by rw [e2]; exact hM.get (by decide) _
      have hv := hv x2 e2 g2
      obtain ⟨c3, hv⟩ := hv
      refine r_icmp_ge (tgt := 32) hx hb dX12_stepGoes_12 (by decide) c3 g2 (fun b4 => ?_) (fun b4 => ?_)
      · have hv := hv.1 b4
        exact hX32  M _ _ _ hM hv hw (lv_sub hl [0, 1] rfl)
      · have hv := hv.2 b4
        refine lv_aload_n hx hb dX12_stepGoes_15 rfl (lv_at hl 0 rfl) ?_
        refine lv_aload_n hx hb dX12_stepGoes_16 rfl (lv_at hl 1 rfl) ?_
        refine lv_aload_n hx hb dX12_stepGoes_17 rfl (lv_at hl 0 rfl) ?_
        refine gf_X12_70 hx hb hC hw 1 (gM_1 τ ad M) rfl dX12_stepGoes_18 ?_
        refine lv_iload_n hx hb dX12_stepGoes_21 rfl (lv_at hl 2 rfl) ?_
        obtain ⟨c5, hv⟩ := hv
        obtain ⟨c6, hv⟩ := hv
        refine r_iald hx hb hC hw 18 (gI_M aM_18 τ ad M) c5 c6 (by decide) dX12_stepGoes_22 ?_
        refine r_top (fun x7 e7 => ?_)
        have g7 : iR x7 := by rw [e7]; exact hM.get aM_18.pos _
        have hv := hv x7 e7 g7
        refine k_cVv (wq_M τ ad) hx hb hml hC hLS hA hw hl.1 (mX12_hearseGoes l D τ ad sA sV _ k1 x7 hk1 g7 M hM _ hv) kX12_hearseGoes ml_X12_337 rfl (gM_1 τ ad M) rfl rfl (Nat.le_of_ble_eq_true rfl) (rm_ok (by decide) (by decide)) ⟨Nat.zero_le _, Nat.zero_le _⟩ dX12_stepGoes_23 (fun M8 H locs hM hv hw => ?_)
        refine r_iinc (v := (v2 + 1)) (lv' := [(2, .int (iI (v2 + 1))), (0, .ref (ad 1)), (1, .ref (ad k1))]) hx hb dX12_stepGoes_26 hl (k := 2) rfl rfl (by decide) rfl (fun ls hl => ?_)
        refine lv_goto (tgt := 7) hx hb dX12_stepGoes_29 (by decide) ?_
        exact ih (v2 + 1) M8 _ _ _ hM hv hw (lv_sub hl [1, 2, 0] rfl)
  have L34 : ∀ (X62 : Mem → Prop), (∀  (M : Mem) (H : Heap) (locs : List Loc) (ls : Array Slot), MR M → X62  M → wS D A s.heap (WM τ ad M) H locs → lv_has ls 3 [(1, .ref (ad k1))] → W p l e (rmk 6 0 0) s m args below meth c H locs 0 0 (MQ below (gQv D (EQv (WM τ ad) MR Q) A) args s 0 0 A) (F0 m 62 ls [])) → ∀ (n : Nat) (v2 : Int) (M : Mem) (H : Heap) (locs : List Loc) (ls : Array Slot), MR M → qX12_stepGoes_L34 k1 X62 Q n v2 M → wS D A s.heap (WM τ ad M) H locs → lv_has ls 3 [(0, .ref (ad 1)), (1, .ref (ad k1)), (2, .int (iI v2))] → W p l e (rmk 6 0 0) s m args below meth c H locs 0 0 (MQ below (gQv D (EQv (WM τ ad) MR Q) A) args s 0 0 A) (F0 m 34 ls []) := by
    intro X62 hX62 n
    induction n with
    | zero => intro v2 M H locs ls hM hv; rw [qX12_stepGoes_L34] at hv; exact hv.elim
    | succ n ih =>
      intro v2 M H locs ls hM hv hw hl
      rw [qX12_stepGoes_L34] at hv
      refine lv_iload_n hx hb dX12_stepGoes_34 rfl (lv_at hl 2 rfl) ?_
      refine lv_aload_n hx hb dX12_stepGoes_35 rfl (lv_at hl 0 rfl) ?_
      refine gf_X12_129 hx hb hC hw 1 (gM_1 τ ad M) rfl dX12_stepGoes_36 ?_
      refine r_top (fun x10 e10 => ?_)
      have g10 : iR x10 := by rw [e10]; exact hM.get (by decide) _
      have hv := hv x10 e10 g10
      obtain ⟨c11, hv⟩ := hv
      refine r_icmp_ge (tgt := 62) hx hb dX12_stepGoes_39 (by decide) c11 g10 (fun b12 => ?_) (fun b12 => ?_)
      · have hv := hv.1 b12
        exact hX62  M _ _ _ hM hv hw (lv_sub hl [1] rfl)
      · have hv := hv.2 b12
        refine lv_aload_n hx hb dX12_stepGoes_42 rfl (lv_at hl 1 rfl) ?_
        refine lv_iload_n hx hb dX12_stepGoes_43 rfl (lv_at hl 2 rfl) ?_
        refine k_cSz (wq_M τ ad) hx hb hml hC hLS hA hw hl.1 (mX12_isEnded l D τ ad sA sV _ k1 v2 hk1 c11 M hM _ hv) kX12_isEnded ml_X12_132 rfl rfl (Nat.le_of_ble_eq_true rfl) (rm_ok (by decide) (by decide)) ⟨Nat.zero_le _, Nat.zero_le _⟩ dX12_stepGoes_44 (fun x13 M13 H locs g13 z13 hM hv hw => ?_)
        have hv := hv g13 z13
        refine r_if_ne (tgt := 56) hx hb dX12_stepGoes_47 (by decide) g13  (fun b14 => ?_) (fun b14 => ?_)
        · have hv := hv.1 b14
          refine r_iinc (v := (v2 + 1)) (lv' := [(2, .int (iI (v2 + 1))), (0, .ref (ad 1)), (1, .ref (ad k1))]) hx hb dX12_stepGoes_56 hl (k := 2) rfl rfl (by decide) rfl (fun ls hl => ?_)
          refine lv_goto (tgt := 34) hx hb dX12_stepGoes_59 (by decide) ?_
          exact ih (v2 + 1) M13 _ _ _ hM hv hw (lv_sub hl [1, 2, 0] rfl)
        · have hv := hv.2 b14
          refine lv_aload_n hx hb dX12_stepGoes_50 rfl (lv_at hl 0 rfl) ?_
          refine lv_aload_n hx hb dX12_stepGoes_51 rfl (lv_at hl 1 rfl) ?_
          refine lv_iload_n hx hb dX12_stepGoes_52 rfl (lv_at hl 2 rfl) ?_
          refine k_cVv (wq_M τ ad) hx hb hml hC hLS hA hw hl.1 (mX12_mournerGoes l D τ ad sA sV _ k1 v2 hk1 c11 M13 hM _ hv) kX12_mournerGoes ml_X12_340 rfl (gM_1 τ ad M13) rfl rfl (Nat.le_of_ble_eq_true rfl) (rm_ok (by decide) (by decide)) ⟨Nat.zero_le _, Nat.zero_le _⟩ dX12_stepGoes_53 (fun M15 H locs hM hv hw => ?_)
          refine r_iinc (v := (v2 + 1)) (lv' := [(2, .int (iI (v2 + 1))), (0, .ref (ad 1)), (1, .ref (ad k1))]) hx hb dX12_stepGoes_56 hl (k := 2) rfl rfl (by decide) rfl (fun ls hl => ?_)
          refine lv_goto (tgt := 34) hx hb dX12_stepGoes_59 (by decide) ?_
          exact ih (v2 + 1) M15 _ _ _ hM hv hw (lv_sub hl [1, 2, 0] rfl)
  refine lv_aload_n hx hb dX12_stepGoes_0 rfl (lv_at hl 0 rfl) ?_
  refine lv_aload_n hx hb dX12_stepGoes_1 rfl (lv_at hl 1 rfl) ?_
  refine k_cVv (wq_M τ ad) hx hb hml hC hLS hA hw hl.1 (mX12_laysLine l D τ ad sA sV _ k1 hk1 M hM _ hv) kX12_laysLine ml_X12_333 rfl (gM_1 τ ad M) rfl rfl (Nat.le_of_ble_eq_true rfl) (rm_ok (by decide) (by decide)) ⟨Nat.zero_le _, Nat.zero_le _⟩ dX12_stepGoes_2 (fun M1 H locs hM hv hw => ?_)
  refine r_iconst hx hb dX12_stepGoes_5 ?_
  refine lv_istore_n (lv' := [(2, .int (iI 0)), (0, .ref (ad 1)), (1, .ref (ad k1))]) hx hb dX12_stepGoes_6 rfl hl (by decide) rfl (fun ls hl => ?_)
  obtain ⟨n9, hv⟩ := hv
  refine L7 _ ?_ n9 0 M1 _ _ _ hM hv hw (lv_sub hl [1, 2, 0] rfl)
  · intro  M H locs ls hM hv hw hl
    refine r_iconst hx hb dX12_stepGoes_32 ?_
    refine lv_istore_n (lv' := [(2, .int (iI 0)), (0, .ref (ad 1)), (1, .ref (ad k1))]) hx hb dX12_stepGoes_33 rfl hl (by decide) rfl (fun ls hl => ?_)
    obtain ⟨n16, hv⟩ := hv
    refine L34 _ ?_ n16 0 M _ _ _ hM hv hw (lv_sub hl [1, 2, 0] rfl)
    · intro  M H locs ls hM hv hw hl
      refine lv_aload_n hx hb dX12_stepGoes_62 rfl (lv_at hl 0 rfl) ?_
      refine r_bipush hx hb dX12_stepGoes_63 (by decide +kernel) ?_
      refine lv_dup2_11 hx hb dX12_stepGoes_65 rfl rfl ?_
      refine r_iald hx hb hC hw k1 (gI_M hk1 τ ad M) (by decide) (by decide) (by decide) dX12_stepGoes_66 ?_
      refine r_top (fun x17 e17 => ?_)
      have g17 : iR x17 := by rw [e17]; exact hM.get hk1.pos _
      have hv := hv x17 e17 g17
      refine r_iconst hx hb dX12_stepGoes_67 ?_
      refine r_iadd (z := (x17 + 1)) hx hb dX12_stepGoes_68 rfl ?_
      obtain ⟨c18, hv⟩ := hv
      obtain ⟨M19, e19⟩ : ∃ M19 : Mem, M19 = up2 M k1 37 (x17 + 1) := ⟨_, rfl⟩
      have hv := hv M19 e19
      refine r_iast (ws' := (WM τ ad M19)) hx hb hC hw k1 (gI_M hk1 τ ad M) (by decide) (by decide) (by decide) (by rw [e19]; exact sI_M hk1 τ ad M _ _) dX12_stepGoes_69 (fun H locs hw => ?_)
      have hM : MR M19 := by rw [e19]; exact hM.put hk1.pos c18
      exact k_vret (wq_M τ ad) hx hb hr hlk hw hM hv dX12_stepGoes_70
set_option maxHeartbeats 4000000 in
set_option maxRecDepth 100000 in
theorem mX12_goesOn (l : Launch) (D : va_G) (τ : Nat → ClassId) (ad : Nat → Nat) (sA sV : Nat → Nat) (sz : Nat) (k1 : Nat) (p2 : Int) (hk1 : MI 38 k1) (hp2 : iR p2) (M : Mem) (hM : MR M) (Q : Mem → Prop) (hv : qX12_goesOn k1 p2 M Q) : Met l yX12_goesOn (lw_w yX12_goesOn cX12_goesOn 4 none) (rmk 7 0 0) (kPc D τ sA sV (WM τ ad M) sz [.ref (ad 1), .ref (ad k1), .int (iI p2)]) (gQv D (EQv (WM τ ad) MR Q) (va_A (WM τ ad M) sz)) 0 0 (va_A (WM τ ad M) sz) := by
  refine k_met (ret := none) (Qc := gQv D (EQv (WM τ ad) MR Q)) (by decide +kernel) (Nat.le_of_ble_eq_true rfl) ?_
  intro p e s m args below meth c A ls hx hb hml hr hlk hnm hC hLS hA hw hl
  have hC : cx D τ s m args RX12 := hC
  have hl : lv_has ls 4 [(0, .ref (ad 1)), (1, .ref (ad k1)), (2, .int (iI p2))] := hl
  unfold qX12_goesOn at hv
  have L12 : ∀ (X31 : Mem → Prop), (∀  (M : Mem) (H : Heap) (locs : List Loc) (ls : Array Slot), MR M → X31  M → wS D A s.heap (WM τ ad M) H locs → lv_has ls 4 [(0, .ref (ad 1)), (1, .ref (ad k1)), (2, .int (iI p2))] → W p l e (rmk 7 0 0) s m args below meth c H locs 0 0 (MQ below (gQv D (EQv (WM τ ad) MR Q) A) args s 0 0 A) (F0 m 31 ls [])) → ∀ (n : Nat) (v3 : Int) (M : Mem) (H : Heap) (locs : List Loc) (ls : Array Slot), MR M → qX12_goesOn_L12 k1 p2 X31 Q n v3 M → wS D A s.heap (WM τ ad M) H locs → lv_has ls 4 [(0, .ref (ad 1)), (1, .ref (ad k1)), (2, .int (iI p2)), (3, .int (iI v3))] → W p l e (rmk 7 0 0) s m args below meth c H locs 0 0 (MQ below (gQv D (EQv (WM τ ad) MR Q) A) args s 0 0 A) (F0 m 12 ls []) := by
    intro X31 hX31 n
    induction n with
    | zero => intro v3 M H locs ls hM hv; rw [qX12_goesOn_L12] at hv; exact hv.elim
    | succ n ih =>
      intro v3 M H locs ls hM hv hw hl
      rw [qX12_goesOn_L12] at hv
      refine lv_iload_n hx hb dX12_goesOn_12 rfl (lv_at hl 3 rfl) ?_
      refine r_bipush hx hb dX12_goesOn_13 (by decide +kernel) ?_
      obtain ⟨c3, hv⟩ := hv
      refine r_icmp_ge (tgt := 31) hx hb dX12_goesOn_15 (by decide) c3 (by decide) (fun b4 => ?_) (fun b4 => ?_)
      · have hv := hv.1 b4
        exact hX31  M _ _ _ hM hv hw (lv_sub hl [0, 1, 2] rfl)
      · have hv := hv.2 b4
        refine lv_aload_n hx hb dX12_goesOn_18 rfl (lv_at hl 0 rfl) ?_
        refine gf_X12_64 hx hb hC hw 1 (gM_1 τ ad M) rfl dX12_goesOn_19 ?_
        refine lv_iload_n hx hb dX12_goesOn_22 rfl (lv_at hl 3 rfl) ?_
        refine r_iconst hx hb dX12_goesOn_23 ?_
        obtain ⟨c5, hv⟩ := hv
        obtain ⟨c6, hv⟩ := hv
        obtain ⟨M7, e7⟩ : ∃ M7 : Mem, M7 = up2 M 16 v3 0 := ⟨_, rfl⟩
        have hv := hv M7 e7
        refine r_iast (ws' := (WM τ ad M7)) hx hb hC hw 16 (gI_M aM_16 τ ad M) c5 c6 (by decide) (by rw [e7]; exact sI_M aM_16 τ ad M _ _) dX12_goesOn_24 (fun H locs hw => ?_)
        have hM : MR M7 := by rw [e7]; exact hM.put aM_16.pos (by decide)
        refine r_iinc (v := (v3 + 1)) (lv' := [(3, .int (iI (v3 + 1))), (0, .ref (ad 1)), (1, .ref (ad k1)), (2, .int (iI p2))]) hx hb dX12_goesOn_25 hl (k := 3) rfl rfl (by decide) rfl (fun ls hl => ?_)
        refine lv_goto (tgt := 12) hx hb dX12_goesOn_28 (by decide) ?_
        exact ih (v3 + 1) M7 _ _ _ hM hv hw (lv_sub hl [1, 2, 3, 0] rfl)
  have L33 : ∀ (X52 : Mem → Prop), (∀  (M : Mem) (H : Heap) (locs : List Loc) (ls : Array Slot), MR M → X52  M → wS D A s.heap (WM τ ad M) H locs → lv_has ls 4 [(0, .ref (ad 1)), (1, .ref (ad k1)), (2, .int (iI p2))] → W p l e (rmk 7 0 0) s m args below meth c H locs 0 0 (MQ below (gQv D (EQv (WM τ ad) MR Q) A) args s 0 0 A) (F0 m 52 ls [])) → ∀ (n : Nat) (v3 : Int) (M : Mem) (H : Heap) (locs : List Loc) (ls : Array Slot), MR M → qX12_goesOn_L33 k1 p2 X52 Q n v3 M → wS D A s.heap (WM τ ad M) H locs → lv_has ls 4 [(0, .ref (ad 1)), (1, .ref (ad k1)), (2, .int (iI p2)), (3, .int (iI v3))] → W p l e (rmk 7 0 0) s m args below meth c H locs 0 0 (MQ below (gQv D (EQv (WM τ ad) MR Q) A) args s 0 0 A) (F0 m 33 ls []) := by
    intro X52 hX52 n
    induction n with
    | zero => intro v3 M H locs ls hM hv; rw [qX12_goesOn_L33] at hv; exact hv.elim
    | succ n ih =>
      intro v3 M H locs ls hM hv hw hl
      rw [qX12_goesOn_L33] at hv
      refine lv_iload_n hx hb dX12_goesOn_33 rfl (lv_at hl 3 rfl) ?_
      refine r_bipush hx hb dX12_goesOn_34 (by decide +kernel) ?_
      obtain ⟨c9, hv⟩ := hv
      refine r_icmp_ge (tgt := 52) hx hb dX12_goesOn_36 (by decide) c9 (by decide) (fun b10 => ?_) (fun b10 => ?_)
      · have hv := hv.1 b10
        exact hX52  M _ _ _ hM hv hw (lv_sub hl [0, 1, 2] rfl)
      · have hv := hv.2 b10
        refine lv_aload_n hx hb dX12_goesOn_39 rfl (lv_at hl 0 rfl) ?_
        refine gf_X12_67 hx hb hC hw 1 (gM_1 τ ad M) rfl dX12_goesOn_40 ?_
        refine lv_iload_n hx hb dX12_goesOn_43 rfl (lv_at hl 3 rfl) ?_
        refine r_iconst hx hb dX12_goesOn_44 ?_
        obtain ⟨c11, hv⟩ := hv
        obtain ⟨c12, hv⟩ := hv
        obtain ⟨M13, e13⟩ : ∃ M13 : Mem, M13 = up2 M 17 v3 0 := ⟨_, rfl⟩
        have hv := hv M13 e13
        refine r_iast (ws' := (WM τ ad M13)) hx hb hC hw 17 (gI_M aM_17 τ ad M) c11 c12 (by decide) (by rw [e13]; exact sI_M aM_17 τ ad M _ _) dX12_goesOn_45 (fun H locs hw => ?_)
        have hM : MR M13 := by rw [e13]; exact hM.put aM_17.pos (by decide)
        refine r_iinc (v := (v3 + 1)) (lv' := [(3, .int (iI (v3 + 1))), (0, .ref (ad 1)), (1, .ref (ad k1)), (2, .int (iI p2))]) hx hb dX12_goesOn_46 hl (k := 3) rfl rfl (by decide) rfl (fun ls hl => ?_)
        refine lv_goto (tgt := 33) hx hb dX12_goesOn_49 (by decide) ?_
        exact ih (v3 + 1) M13 _ _ _ hM hv hw (lv_sub hl [1, 2, 3, 0] rfl)
  have L54 : ∀ (n : Nat) (v3 : Int) (M : Mem) (H : Heap) (locs : List Loc) (ls : Array Slot), MR M → qX12_goesOn_L54 k1 p2  Q n v3 M → wS D A s.heap (WM τ ad M) H locs → lv_has ls 4 [(0, .ref (ad 1)), (1, .ref (ad k1)), (2, .int (iI p2)), (3, .int (iI v3))] → W p l e (rmk 7 0 0) s m args below meth c H locs 0 0 (MQ below (gQv D (EQv (WM τ ad) MR Q) A) args s 0 0 A) (F0 m 54 ls []) := by
    intro n
    induction n with
    | zero => intro v3 M H locs ls hM hv; rw [qX12_goesOn_L54] at hv; exact hv.elim
    | succ n ih =>
      intro v3 M H locs ls hM hv hw hl
      rw [qX12_goesOn_L54] at hv
      refine lv_iload_n hx hb dX12_goesOn_54 rfl (lv_at hl 3 rfl) ?_
      refine lv_iload_n hx hb dX12_goesOn_55 rfl (lv_at hl 2 rfl) ?_
      obtain ⟨c15, hv⟩ := hv
      refine r_icmp_ge (tgt := 70) hx hb dX12_goesOn_56 (by decide) c15 hp2 (fun b16 => ?_) (fun b16 => ?_)
      · have hv := hv.1 b16
        exact k_vret (wq_M τ ad) hx hb hr hlk hw hM hv dX12_goesOn_70
      · have hv := hv.2 b16
        refine lv_aload_n hx hb dX12_goesOn_59 rfl (lv_at hl 0 rfl) ?_
        refine lv_aload_n hx hb dX12_goesOn_60 rfl (lv_at hl 1 rfl) ?_
        refine k_cVv (wq_M τ ad) hx hb hml hC hLS hA hw hl.1 (mX12_stepGoes l D τ ad sA sV _ k1 hk1 M hM _ hv) kX12_stepGoes ml_X12_343 rfl (gM_1 τ ad M) rfl rfl (Nat.le_of_ble_eq_true rfl) (rm_ok (by decide) (by decide)) ⟨Nat.zero_le _, Nat.zero_le _⟩ dX12_goesOn_61 (fun M17 H locs hM hv hw => ?_)
        refine r_iinc (v := (v3 + 1)) (lv' := [(3, .int (iI (v3 + 1))), (0, .ref (ad 1)), (1, .ref (ad k1)), (2, .int (iI p2))]) hx hb dX12_goesOn_64 hl (k := 3) rfl rfl (by decide) rfl (fun ls hl => ?_)
        refine lv_goto (tgt := 54) hx hb dX12_goesOn_67 (by decide) ?_
        exact ih (v3 + 1) M17 _ _ _ hM hv hw (lv_sub hl [1, 2, 3, 0] rfl)
  refine lv_aload_n hx hb dX12_goesOn_0 rfl (lv_at hl 0 rfl) ?_
  refine r_iconst hx hb dX12_goesOn_1 ?_
  obtain ⟨M1, e1⟩ : ∃ M1 : Mem, M1 = up2 M 1 30 0 := ⟨_, rfl⟩
  have hv := hv M1 e1
  refine pf_X12_327 (ws' := (WM τ ad M1)) hx hb hC hw 1 (gM_1 τ ad M) (Nat.le_of_ble_eq_true rfl) (by rw [e1]; exact sM_1_30 τ ad M _) dX12_goesOn_2 (fun H locs hw => ?_)
  have hM : MR M1 := by rw [e1]; exact hM.put (by decide) (by decide)
  refine lv_aload_n hx hb dX12_goesOn_5 rfl (lv_at hl 0 rfl) ?_
  refine r_iconst hx hb dX12_goesOn_6 ?_
  obtain ⟨M2, e2⟩ : ∃ M2 : Mem, M2 = up2 M1 1 31 0 := ⟨_, rfl⟩
  have hv := hv M2 e2
  refine pf_X12_330 (ws' := (WM τ ad M2)) hx hb hC hw 1 (gM_1 τ ad M1) (Nat.le_of_ble_eq_true rfl) (by rw [e2]; exact sM_1_31 τ ad M1 _) dX12_goesOn_7 (fun H locs hw => ?_)
  have hM : MR M2 := by rw [e2]; exact hM.put (by decide) (by decide)
  refine r_iconst hx hb dX12_goesOn_10 ?_
  refine lv_istore_n (lv' := [(3, .int (iI 0)), (0, .ref (ad 1)), (1, .ref (ad k1)), (2, .int (iI p2))]) hx hb dX12_goesOn_11 rfl hl (by decide) rfl (fun ls hl => ?_)
  obtain ⟨n8, hv⟩ := hv
  refine L12 _ ?_ n8 0 M2 _ _ _ hM hv hw (lv_sub hl [1, 2, 3, 0] rfl)
  · intro  M H locs ls hM hv hw hl
    refine r_iconst hx hb dX12_goesOn_31 ?_
    refine lv_istore_n (lv' := [(3, .int (iI 0)), (0, .ref (ad 1)), (1, .ref (ad k1)), (2, .int (iI p2))]) hx hb dX12_goesOn_32 rfl hl (by decide) rfl (fun ls hl => ?_)
    obtain ⟨n14, hv⟩ := hv
    refine L33 _ ?_ n14 0 M _ _ _ hM hv hw (lv_sub hl [1, 2, 3, 0] rfl)
    · intro  M H locs ls hM hv hw hl
      refine r_iconst hx hb dX12_goesOn_52 ?_
      refine lv_istore_n (lv' := [(3, .int (iI 0)), (0, .ref (ad 1)), (1, .ref (ad k1)), (2, .int (iI p2))]) hx hb dX12_goesOn_53 rfl hl (by decide) rfl (fun ls hl => ?_)
      obtain ⟨n18, hv⟩ := hv
      refine L54  n18 0 M _ _ _ hM hv hw (lv_sub hl [1, 2, 3, 0] rfl)
set_option maxHeartbeats 4000000 in
set_option maxRecDepth 100000 in
theorem mX12_putsBy (l : Launch) (D : va_G) (τ : Nat → ClassId) (ad : Nat → Nat) (sA sV : Nat → Nat) (sz : Nat)   (M : Mem) (hM : MR M) (Q : Mem → Prop) (hv : qX12_putsBy  M Q) : Met l yX12_putsBy (lw_w yX12_putsBy cX12_putsBy 2 none) (rmk 1 0 0) (kPc D τ sA sV (WM τ ad M) sz [.ref (ad 1)]) (gQv D (EQv (WM τ ad) MR Q) (va_A (WM τ ad M) sz)) 0 0 (va_A (WM τ ad M) sz) := by
  refine k_met (ret := none) (Qc := gQv D (EQv (WM τ ad) MR Q)) (by decide +kernel) (Nat.le_of_ble_eq_true rfl) ?_
  intro p e s m args below meth c A ls hx hb hml hr hlk hnm hC hLS hA hw hl
  have hC : cx D τ s m args RX12 := hC
  have hl : lv_has ls 2 [(0, .ref (ad 1))] := hl
  unfold qX12_putsBy at hv
  have L2 : ∀ (n : Nat) (v1 : Int) (M : Mem) (H : Heap) (locs : List Loc) (ls : Array Slot), MR M → qX12_putsBy_L2   Q n v1 M → wS D A s.heap (WM τ ad M) H locs → lv_has ls 2 [(0, .ref (ad 1)), (1, .int (iI v1))] → W p l e (rmk 1 0 0) s m args below meth c H locs 0 0 (MQ below (gQv D (EQv (WM τ ad) MR Q) A) args s 0 0 A) (F0 m 2 ls []) := by
    intro n
    induction n with
    | zero => intro v1 M H locs ls hM hv; rw [qX12_putsBy_L2] at hv; exact hv.elim
    | succ n ih =>
      intro v1 M H locs ls hM hv hw hl
      rw [qX12_putsBy_L2] at hv
      refine lv_iload_n hx hb dX12_putsBy_2 rfl (lv_at hl 1 rfl) ?_
      refine r_bipush hx hb dX12_putsBy_3 (by decide +kernel) ?_
      obtain ⟨c1, hv⟩ := hv
      refine r_icmp_ge (tgt := 34) hx hb dX12_putsBy_5 (by decide) c1 (by decide) (fun b2 => ?_) (fun b2 => ?_)
      · have hv := hv.1 b2
        exact k_vret (wq_M τ ad) hx hb hr hlk hw hM hv dX12_putsBy_34
      · have hv := hv.2 b2
        refine lv_aload_n hx hb dX12_putsBy_8 rfl (lv_at hl 0 rfl) ?_
        refine gf_X12_61 hx hb hC hw 1 (gM_1 τ ad M) rfl dX12_putsBy_9 ?_
        refine r_bipush hx hb dX12_putsBy_12 (by decide +kernel) ?_
        refine lv_aload_n hx hb dX12_putsBy_14 rfl (lv_at hl 0 rfl) ?_
        refine gf_X12_186 hx hb hC hw 1 (gM_1 τ ad M) rfl dX12_putsBy_15 ?_
        refine r_top (fun x3 e3 => ?_)
        have g3 : iR x3 := by rw [e3]; exact hM.get (by decide) _
        have hv := hv x3 e3 g3
        refine r_imul (z := (38 * x3)) hx hb dX12_putsBy_18 rfl ?_
        refine lv_iload_n hx hb dX12_putsBy_19 rfl (lv_at hl 1 rfl) ?_
        refine r_iadd (z := ((38 * x3) + v1)) hx hb dX12_putsBy_20 rfl ?_
        refine lv_aload_n hx hb dX12_putsBy_21 rfl (lv_at hl 0 rfl) ?_
        refine gf_X12_31 hx hb hC hw 1 (gM_1 τ ad M) rfl dX12_putsBy_22 ?_
        refine lv_iload_n hx hb dX12_putsBy_25 rfl (lv_at hl 1 rfl) ?_
        obtain ⟨c4, hv⟩ := hv
        obtain ⟨c5, hv⟩ := hv
        refine r_iald hx hb hC hw 5 (gI_M aM_5 τ ad M) c4 c5 (by decide) dX12_putsBy_26 ?_
        refine r_top (fun x6 e6 => ?_)
        have g6 : iR x6 := by rw [e6]; exact hM.get aM_5.pos _
        have hv := hv x6 e6 g6
        obtain ⟨c7, hv⟩ := hv
        obtain ⟨c8, hv⟩ := hv
        obtain ⟨M9, e9⟩ : ∃ M9 : Mem, M9 = up2 M 15 ((38 * x3) + v1) x6 := ⟨_, rfl⟩
        have hv := hv M9 e9
        refine r_iast (ws' := (WM τ ad M9)) hx hb hC hw 15 (gI_M aM_15 τ ad M) c7 c8 (by decide) (by rw [e9]; exact sI_M aM_15 τ ad M _ _) dX12_putsBy_27 (fun H locs hw => ?_)
        have hM : MR M9 := by rw [e9]; exact hM.put aM_15.pos g6
        refine r_iinc (v := (v1 + 1)) (lv' := [(1, .int (iI (v1 + 1))), (0, .ref (ad 1))]) hx hb dX12_putsBy_28 hl (k := 1) rfl rfl (by decide) rfl (fun ls hl => ?_)
        refine lv_goto (tgt := 2) hx hb dX12_putsBy_31 (by decide) ?_
        exact ih (v1 + 1) M9 _ _ _ hM hv hw (lv_sub hl [1, 0] rfl)
  refine r_iconst hx hb dX12_putsBy_0 ?_
  refine lv_istore_n (lv' := [(1, .int (iI 0)), (0, .ref (ad 1))]) hx hb dX12_putsBy_1 rfl hl (by decide) rfl (fun ls hl => ?_)
  obtain ⟨n10, hv⟩ := hv
  refine L2  n10 0 M _ _ _ hM hv hw (lv_sub hl [1, 0] rfl)
set_option maxHeartbeats 4000000 in
set_option maxRecDepth 100000 in
theorem mX12_steps (l : Launch) (D : va_G) (τ : Nat → ClassId) (ad : Nat → Nat) (sA sV : Nat → Nat) (sz : Nat) (p1 : Int) (hp1 : iR p1) (M : Mem) (hM : MR M) (Q : Int → Mem → Prop) (hv : qX12_steps p1 M Q) : Met l yX12_steps (lw_w yX12_steps cX12_steps 2 (some .int)) (rmk 8 0 0) (kPc D τ sA sV (WM τ ad M) sz [.ref (ad 1), .int (iI p1)]) (gQi D (EQi (WM τ ad) MR Q) (va_A (WM τ ad M) sz)) 0 0 (va_A (WM τ ad M) sz) := by
  refine k_met (ret := (some .int)) (Qc := gQi D (EQi (WM τ ad) MR Q)) (by decide +kernel) (Nat.le_of_ble_eq_true rfl) ?_
  intro p e s m args below meth c A ls hx hb hml hr hlk hnm hC hLS hA hw hl
  have hC : cx D τ s m args RX12 := hC
  have hl : lv_has ls 2 [(0, .ref (ad 1)), (1, .int (iI p1))] := hl
  unfold qX12_steps at hv
  refine lv_aload_n hx hb dX12_steps_0 rfl (lv_at hl 0 rfl) ?_
  refine r_iconst hx hb dX12_steps_1 ?_
  obtain ⟨M1, e1⟩ : ∃ M1 : Mem, M1 = up2 M 1 0 0 := ⟨_, rfl⟩
  have hv := hv M1 e1
  refine pf_X12_112 (ws' := (WM τ ad M1)) hx hb hC hw 1 (gM_1 τ ad M) (Nat.le_of_ble_eq_true rfl) (by rw [e1]; exact sM_1_0 τ ad M _) dX12_steps_2 (fun H locs hw => ?_)
  have hM : MR M1 := by rw [e1]; exact hM.put (by decide) (by decide)
  refine lv_iload_n hx hb dX12_steps_5 rfl (lv_at hl 1 rfl) ?_
  refine r_i2l hx hb dX12_steps_6 hp1 ?_
  refine r_lconst (z := 0) hx hb dX12_steps_7 (by decide +kernel) ?_
  refine r_ldc2 (z := 60) hx hb hC ct_X12_350 (by decide +kernel) dX12_steps_8 ?_
  refine k_cSz (wq_M τ ad) hx hb hml hC hLS hA hw hl.1 (mX12_in l D τ ad sA sV _ p1 0 60 (iR_lR hp1) (by decide) (by decide) M1 hM _ hv) kX12_in ml_X12_125 rfl rfl (Nat.le_of_ble_eq_true rfl) (rm_ok (by decide) (by decide)) ⟨Nat.zero_le _, Nat.zero_le _⟩ dX12_steps_11 (fun x2 M2 H locs g2 z2 hM hv hw => ?_)
  have hv := hv g2 z2
  refine r_if_ne (tgt := 19) hx hb dX12_steps_14 (by decide) g2  (fun b3 => ?_) (fun b3 => ?_)
  · have hv := hv.1 b3
    refine lv_aload_n hx hb dX12_steps_19 rfl (lv_at hl 0 rfl) ?_
    refine k_cVv (wq_M τ ad) hx hb hml hC hLS hA hw hl.1 (mX12_putsBy l D τ ad sA sV _   M2 hM _ hv) kX12_putsBy ml_X12_352 rfl (gM_1 τ ad M2) rfl rfl (Nat.le_of_ble_eq_true rfl) (rm_ok (by decide) (by decide)) ⟨Nat.zero_le _, Nat.zero_le _⟩ dX12_steps_20 (fun M4 H locs hM hv hw => ?_)
    refine lv_aload_n hx hb dX12_steps_23 rfl (lv_at hl 0 rfl) ?_
    refine lv_aload_n hx hb dX12_steps_24 rfl (lv_at hl 0 rfl) ?_
    refine gf_X12_31 hx hb hC hw 1 (gM_1 τ ad M4) rfl dX12_steps_25 ?_
    refine lv_iload_n hx hb dX12_steps_28 rfl (lv_at hl 1 rfl) ?_
    refine k_cVv (wq_M τ ad) hx hb hml hC hLS hA hw hl.1 (mX12_goesOn l D τ ad sA sV _ 5 p1 aM_5 hp1 M4 hM _ hv) kX12_goesOn ml_X12_355 rfl (gM_1 τ ad M4) rfl rfl (Nat.le_of_ble_eq_true rfl) (rm_ok (by decide) (by decide)) ⟨Nat.zero_le _, Nat.zero_le _⟩ dX12_steps_29 (fun M5 H locs hM hv hw => ?_)
    refine lv_aload_n hx hb dX12_steps_32 rfl (lv_at hl 0 rfl) ?_
    refine r_iconst hx hb dX12_steps_33 ?_
    obtain ⟨M6, e6⟩ : ∃ M6 : Mem, M6 = up2 M5 1 1 0 := ⟨_, rfl⟩
    have hv := hv M6 e6
    refine pf_X12_119 (ws' := (WM τ ad M6)) hx hb hC hw 1 (gM_1 τ ad M5) (Nat.le_of_ble_eq_true rfl) (by rw [e6]; exact sM_1_1 τ ad M5 _) dX12_steps_34 (fun H locs hw => ?_)
    have hM : MR M6 := by rw [e6]; exact hM.put (by decide) (by decide)
    refine lv_aload_n hx hb dX12_steps_37 rfl (lv_at hl 0 rfl) ?_
    refine lv_aload_n hx hb dX12_steps_38 rfl (lv_at hl 0 rfl) ?_
    refine gf_X12_327 hx hb hC hw 1 (gM_1 τ ad M6) rfl dX12_steps_39 ?_
    refine r_top (fun x7 e7 => ?_)
    have g7 : iR x7 := by rw [e7]; exact hM.get (by decide) _
    have hv := hv x7 e7 g7
    refine r_i2l hx hb dX12_steps_42 g7 ?_
    refine k_cVv (wq_M τ ad) hx hb hml hC hLS hA hw hl.1 (mX12_enters l D τ ad sA sV _ x7 (iR_lR g7) M6 hM _ hv) kX12_enters ml_X12_358 rfl (gM_1 τ ad M6) rfl rfl (Nat.le_of_ble_eq_true rfl) (rm_ok (by decide) (by decide)) ⟨Nat.zero_le _, Nat.zero_le _⟩ dX12_steps_43 (fun M8 H locs hM hv hw => ?_)
    refine lv_aload_n hx hb dX12_steps_46 rfl (lv_at hl 0 rfl) ?_
    refine lv_aload_n hx hb dX12_steps_47 rfl (lv_at hl 0 rfl) ?_
    refine gf_X12_330 hx hb hC hw 1 (gM_1 τ ad M8) rfl dX12_steps_48 ?_
    refine r_top (fun x9 e9 => ?_)
    have g9 : iR x9 := by rw [e9]; exact hM.get (by decide) _
    have hv := hv x9 e9 g9
    refine r_i2l hx hb dX12_steps_51 g9 ?_
    refine k_cVv (wq_M τ ad) hx hb hml hC hLS hA hw hl.1 (mX12_enters l D τ ad sA sV _ x9 (iR_lR g9) M8 hM _ hv) kX12_enters ml_X12_358 rfl (gM_1 τ ad M8) rfl rfl (Nat.le_of_ble_eq_true rfl) (rm_ok (by decide) (by decide)) ⟨Nat.zero_le _, Nat.zero_le _⟩ dX12_steps_52 (fun M10 H locs hM hv hw => ?_)
    refine lv_aload_n hx hb dX12_steps_55 rfl (lv_at hl 0 rfl) ?_
    refine lv_aload_n hx hb dX12_steps_56 rfl (lv_at hl 0 rfl) ?_
    refine gf_X12_31 hx hb hC hw 1 (gM_1 τ ad M10) rfl dX12_steps_57 ?_
    refine r_bipush hx hb dX12_steps_60 (by decide +kernel) ?_
    refine r_iald hx hb hC hw 5 (gI_M aM_5 τ ad M10) (by decide) (by decide) (by decide) dX12_steps_62 ?_
    refine r_top (fun x11 e11 => ?_)
    have g11 : iR x11 := by rw [e11]; exact hM.get aM_5.pos _
    have hv := hv x11 e11 g11
    refine k_cVi (wq_M τ ad) hx hb hml hC hLS hA hw hl.1 (mX12_adds l D τ ad sA sV _ x11 g11 M10 hM _ hv) kX12_adds ml_X12_318 rfl (gM_1 τ ad M10) rfl rfl (Nat.le_of_ble_eq_true rfl) (rm_ok (by decide) (by decide)) ⟨Nat.zero_le _, Nat.zero_le _⟩ dX12_steps_63 (fun x12 M12 H locs g12 hM hv hw => ?_)
    have hv := hv g12
    exact k_iret (wq_M τ ad) hx hb hr hlk hw hM g12 hv dX12_steps_66
  · have hv := hv.2 b3
    refine r_iconst hx hb dX12_steps_17 ?_
    exact k_iret (wq_M τ ad) hx hb hr hlk hw hM (by decide) hv dX12_steps_18
set_option maxHeartbeats 4000000 in
set_option maxRecDepth 100000 in
theorem mX12_counted (l : Launch) (D : va_G) (τ : Nat → ClassId) (ad : Nat → Nat) (sA sV : Nat → Nat) (sz : Nat) (p1 : Int) (hp1 : iR p1) (M : Mem) (hM : MR M) (Q : Int → Mem → Prop) (hv : qX12_counted p1 M Q) : Met l yX12_counted (lw_w yX12_counted cX12_counted 2 (some .int)) (rmk 2 0 0) (kPc D τ sA sV (WM τ ad M) sz [.ref (ad 1), .int (iI p1)]) (gQi D (EQi (WM τ ad) MR Q) (va_A (WM τ ad M) sz)) 0 0 (va_A (WM τ ad M) sz) := by
  refine k_met (ret := (some .int)) (Qc := gQi D (EQi (WM τ ad) MR Q)) (by decide +kernel) (Nat.le_of_ble_eq_true rfl) ?_
  intro p e s m args below meth c A ls hx hb hml hr hlk hnm hC hLS hA hw hl
  have hC : cx D τ s m args RX12 := hC
  have hl : lv_has ls 2 [(0, .ref (ad 1)), (1, .int (iI p1))] := hl
  unfold qX12_counted at hv
  have J14 : ∀  (M : Mem) (H : Heap) (locs : List Loc) (ls : Array Slot), MR M → qX12_counted_J14 p1 Q  M → wS D A s.heap (WM τ ad M) H locs → lv_has ls 2 [(0, .ref (ad 1)), (1, .int (iI p1))] → W p l e (rmk 2 0 0) s m args below meth c H locs 0 0 (MQ below (gQi D (EQi (WM τ ad) MR Q) A) args s 0 0 A) (F0 m 14 ls []) := by
    intro  M H locs ls hM hv hw hl
    unfold qX12_counted_J14 at hv
    refine lv_aload_n hx hb dX12_counted_14 rfl (lv_at hl 0 rfl) ?_
    refine lv_iload_n hx hb dX12_counted_15 rfl (lv_at hl 1 rfl) ?_
    refine k_cVi (wq_M τ ad) hx hb hml hC hLS hA hw hl.1 (mX12_adds l D τ ad sA sV _ p1 hp1 M hM _ hv) kX12_adds ml_X12_318 rfl (gM_1 τ ad M) rfl rfl (Nat.le_of_ble_eq_true rfl) (rm_ok (by decide) (by decide)) ⟨Nat.zero_le _, Nat.zero_le _⟩ dX12_counted_16 (fun x2 M2 H locs g2 hM hv hw => ?_)
    have hv := hv g2
    exact k_iret (wq_M τ ad) hx hb hr hlk hw hM g2 hv dX12_counted_19
  refine lv_iload_n hx hb dX12_counted_0 rfl (lv_at hl 1 rfl) ?_
  refine r_if_ge (tgt := 14) hx hb dX12_counted_1 (by decide) hp1  (fun b1 => ?_) (fun b1 => ?_)
  · have hv := hv.1 b1
    exact J14  M _ _ _ hM hv hw (lv_sub hl [0, 1] rfl)
  · have hv := hv.2 b1
    refine lv_iload_n hx hb dX12_counted_4 rfl (lv_at hl 1 rfl) ?_
    refine r_bipush hx hb dX12_counted_5 (by decide +kernel) ?_
    refine r_icmp_eq (tgt := 14) hx hb dX12_counted_7 (by decide) hp1 (by decide) (fun b3 => ?_) (fun b3 => ?_)
    · have hv := hv.1 b3
      exact J14  M _ _ _ hM hv hw (lv_sub hl [0, 1] rfl)
    · have hv := hv.2 b3
      refine lv_iload_n hx hb dX12_counted_10 rfl (lv_at hl 1 rfl) ?_
      refine lv_goto (tgt := 19) hx hb dX12_counted_11 (by decide) ?_
      exact k_iret (wq_M τ ad) hx hb hr hlk hw hM hp1 hv dX12_counted_19
set_option maxHeartbeats 4000000 in
set_option maxRecDepth 100000 in
theorem mX12_turnsOne (l : Launch) (D : va_G) (τ : Nat → ClassId) (ad : Nat → Nat) (sA sV : Nat → Nat) (sz : Nat) (k1 : Nat) (p2 : Int) (hk1 : MI 38 k1) (hp2 : iR p2) (M : Mem) (hM : MR M) (Q : Int → Mem → Prop) (hv : qX12_turnsOne k1 p2 M Q) : Met l yX12_turnsOne (lw_w yX12_turnsOne cX12_turnsOne 4 (some .int)) (rmk 3 0 0) (kPc D τ sA sV (WM τ ad M) sz [.ref (ad 1), .ref (ad k1), .int (iI p2)]) (gQi D (EQi (WM τ ad) MR Q) (va_A (WM τ ad M) sz)) 0 0 (va_A (WM τ ad M) sz) := by
  refine k_met (ret := (some .int)) (Qc := gQi D (EQi (WM τ ad) MR Q)) (by decide +kernel) (Nat.le_of_ble_eq_true rfl) ?_
  intro p e s m args below meth c A ls hx hb hml hr hlk hnm hC hLS hA hw hl
  have hC : cx D τ s m args RX12 := hC
  have hl : lv_has ls 4 [(0, .ref (ad 1)), (1, .ref (ad k1)), (2, .int (iI p2))] := hl
  unfold qX12_turnsOne at hv
  refine lv_aload_n hx hb dX12_turnsOne_0 rfl (lv_at hl 0 rfl) ?_
  refine lv_iload_n hx hb dX12_turnsOne_1 rfl (lv_at hl 2 rfl) ?_
  refine k_cVz (wq_M τ ad) hx hb hml hC hLS hA hw hl.1 (mX12_isMourner l D τ ad sA sV _ p2 hp2 M hM _ hv) kX12_isMourner ml_X12_308 rfl (gM_1 τ ad M) rfl rfl (Nat.le_of_ble_eq_true rfl) (rm_ok (by decide) (by decide)) ⟨Nat.zero_le _, Nat.zero_le _⟩ dX12_turnsOne_2 (fun x1 M1 H locs g1 z1 hM hv hw => ?_)
  have hv := hv g1 z1
  refine r_if_ne (tgt := 10) hx hb dX12_turnsOne_5 (by decide) g1  (fun b2 => ?_) (fun b2 => ?_)
  · have hv := hv.1 b2
    refine lv_aload_n hx hb dX12_turnsOne_10 rfl (lv_at hl 1 rfl) ?_
    refine lv_iload_n hx hb dX12_turnsOne_11 rfl (lv_at hl 2 rfl) ?_
    refine k_cSz (wq_M τ ad) hx hb hml hC hLS hA hw hl.1 (mX12_isEnded l D τ ad sA sV _ k1 p2 hk1 hp2 M1 hM _ hv) kX12_isEnded ml_X12_132 rfl rfl (Nat.le_of_ble_eq_true rfl) (rm_ok (by decide) (by decide)) ⟨Nat.zero_le _, Nat.zero_le _⟩ dX12_turnsOne_12 (fun x3 M3 H locs g3 z3 hM hv hw => ?_)
    have hv := hv g3 z3
    refine r_if_eq (tgt := 21) hx hb dX12_turnsOne_15 (by decide) g3  (fun b4 => ?_) (fun b4 => ?_)
    · have hv := hv.1 b4
      refine lv_aload_n hx hb dX12_turnsOne_21 rfl (lv_at hl 1 rfl) ?_
      refine r_bipush hx hb dX12_turnsOne_22 (by decide +kernel) ?_
      refine lv_iload_n hx hb dX12_turnsOne_24 rfl (lv_at hl 2 rfl) ?_
      refine r_iadd (z := (21 + p2)) hx hb dX12_turnsOne_25 rfl ?_
      obtain ⟨c5, hv⟩ := hv
      obtain ⟨c6, hv⟩ := hv
      refine r_iald hx hb hC hw k1 (gI_M hk1 τ ad M3) c5 c6 (by decide) dX12_turnsOne_26 ?_
      refine r_top (fun x7 e7 => ?_)
      have g7 : iR x7 := by rw [e7]; exact hM.get hk1.pos _
      have hv := hv x7 e7 g7
      refine lv_istore_n (lv' := [(3, .int (iI x7)), (0, .ref (ad 1)), (1, .ref (ad k1)), (2, .int (iI p2))]) hx hb dX12_turnsOne_27 rfl hl (by decide) rfl (fun ls hl => ?_)
      refine lv_aload_n hx hb dX12_turnsOne_28 rfl (lv_at hl 2 rfl) ?_
      refine lv_aload_n hx hb dX12_turnsOne_29 rfl (lv_at hl 1 rfl) ?_
      refine gf_X12_24 hx hb hC hw 1 (gM_1 τ ad M3) rfl dX12_turnsOne_30 ?_
      refine lv_iload_n hx hb dX12_turnsOne_33 rfl (lv_at hl 3 rfl) ?_
      obtain ⟨c8, hv⟩ := hv
      obtain ⟨c9, hv⟩ := hv
      refine r_iald hx hb hC hw 3 (gI_M aM_3 τ ad M3) c8 c9 (by decide) dX12_turnsOne_34 ?_
      refine r_top (fun x10 e10 => ?_)
      have g10 : iR x10 := by rw [e10]; exact hM.get aM_3.pos _
      have hv := hv x10 e10 g10
      refine k_cSz (wq_M τ ad) hx hb hml hC hLS hA hw hl.1 (mX12_isOn l D τ ad sA sV _ k1 x10 hk1 g10 M3 hM _ hv) kX12_isOn ml_X12_266 rfl rfl (Nat.le_of_ble_eq_true rfl) (rm_ok (by decide) (by decide)) ⟨Nat.zero_le _, Nat.zero_le _⟩ dX12_turnsOne_35 (fun x11 M11 H locs g11 z11 hM hv hw => ?_)
      have hv := hv g11 z11
      refine r_if_eq (tgt := 51) hx hb dX12_turnsOne_38 (by decide) g11  (fun b12 => ?_) (fun b12 => ?_)
      · have hv := hv.1 b12
        refine r_bipush hx hb dX12_turnsOne_51 (by decide +kernel) ?_
        exact k_iret (wq_M τ ad) hx hb hr hlk hw hM (by decide) hv dX12_turnsOne_53
      · have hv := hv.2 b12
        refine lv_iload_n hx hb dX12_turnsOne_41 rfl (lv_at hl 0 rfl) ?_
        refine lv_aload_n hx hb dX12_turnsOne_42 rfl (lv_at hl 1 rfl) ?_
        refine gf_X12_24 hx hb hC hw 1 (gM_1 τ ad M11) rfl dX12_turnsOne_43 ?_
        refine lv_iload_n hx hb dX12_turnsOne_46 rfl (lv_at hl 3 rfl) ?_
        refine r_iald hx hb hC hw 3 (gI_M aM_3 τ ad M11) c8 c9 (by decide) dX12_turnsOne_47 ?_
        refine r_top (fun x13 e13 => ?_)
        have g13 : iR x13 := by rw [e13]; exact hM.get aM_3.pos _
        have hv := hv x13 e13 g13
        refine r_icmp_ne (tgt := 54) hx hb dX12_turnsOne_48 (by decide) g7 g13 (fun b14 => ?_) (fun b14 => ?_)
        · have hv := hv.1 b14
          refine lv_aload_n hx hb dX12_turnsOne_54 rfl (lv_at hl 2 rfl) ?_
          refine r_bipush hx hb dX12_turnsOne_55 (by decide +kernel) ?_
          refine lv_iload_n hx hb dX12_turnsOne_57 rfl (lv_at hl 3 rfl) ?_
          refine r_iadd (z := (21 + p2)) hx hb dX12_turnsOne_58 rfl ?_
          refine lv_aload_n hx hb dX12_turnsOne_59 rfl (lv_at hl 1 rfl) ?_
          refine gf_X12_24 hx hb hC hw 1 (gM_1 τ ad M11) rfl dX12_turnsOne_60 ?_
          refine lv_iload_n hx hb dX12_turnsOne_63 rfl (lv_at hl 3 rfl) ?_
          refine r_iald hx hb hC hw 3 (gI_M aM_3 τ ad M11) c8 c9 (by decide) dX12_turnsOne_64 ?_
          refine r_top (fun x15 e15 => ?_)
          have g15 : iR x15 := by rw [e15]; exact hM.get aM_3.pos _
          have hv := hv x15 e15 g15
          obtain ⟨M16, e16⟩ : ∃ M16 : Mem, M16 = up2 M11 k1 (21 + p2) x15 := ⟨_, rfl⟩
          have hv := hv M16 e16
          refine r_iast (ws' := (WM τ ad M16)) hx hb hC hw k1 (gI_M hk1 τ ad M11) c5 c6 (by decide) (by rw [e16]; exact sI_M hk1 τ ad M11 _ _) dX12_turnsOne_65 (fun H locs hw => ?_)
          have hM : MR M16 := by rw [e16]; exact hM.put hk1.pos g15
          refine lv_iload_n hx hb dX12_turnsOne_66 rfl (lv_at hl 0 rfl) ?_
          refine r_if_ge (tgt := 75) hx hb dX12_turnsOne_67 (by decide) g7  (fun b17 => ?_) (fun b17 => ?_)
          · have hv := hv.1 b17
            refine lv_iload_n hx hb dX12_turnsOne_75 rfl (lv_at hl 0 rfl) ?_
            exact k_iret (wq_M τ ad) hx hb hr hlk hw hM g7 hv dX12_turnsOne_76
          · have hv := hv.2 b17
            refine r_bipush hx hb dX12_turnsOne_70 (by decide +kernel) ?_
            refine lv_goto (tgt := 76) hx hb dX12_turnsOne_72 (by decide) ?_
            exact k_iret (wq_M τ ad) hx hb hr hlk hw hM (by decide) hv dX12_turnsOne_76
        · have hv := hv.2 b14
          refine r_bipush hx hb dX12_turnsOne_51 (by decide +kernel) ?_
          exact k_iret (wq_M τ ad) hx hb hr hlk hw hM (by decide) hv dX12_turnsOne_53
    · have hv := hv.2 b4
      refine r_bipush hx hb dX12_turnsOne_18 (by decide +kernel) ?_
      exact k_iret (wq_M τ ad) hx hb hr hlk hw hM (by decide) hv dX12_turnsOne_20
  · have hv := hv.2 b2
    refine r_iconst hx hb dX12_turnsOne_8 ?_
    exact k_iret (wq_M τ ad) hx hb hr hlk hw hM (by decide) hv dX12_turnsOne_9
set_option maxHeartbeats 4000000 in
set_option maxRecDepth 100000 in
theorem mX12_turnsTo (l : Launch) (D : va_G) (τ : Nat → ClassId) (ad : Nat → Nat) (sA sV : Nat → Nat) (sz : Nat) (p1 : Int) (hp1 : iR p1) (M : Mem) (hM : MR M) (Q : Int → Mem → Prop) (hv : qX12_turnsTo p1 M Q) : Met l yX12_turnsTo (lw_w yX12_turnsTo cX12_turnsTo 2 (some .int)) (rmk 4 0 0) (kPc D τ sA sV (WM τ ad M) sz [.ref (ad 1), .int (iI p1)]) (gQi D (EQi (WM τ ad) MR Q) (va_A (WM τ ad M) sz)) 0 0 (va_A (WM τ ad M) sz) := by
  refine k_met (ret := (some .int)) (Qc := gQi D (EQi (WM τ ad) MR Q)) (by decide +kernel) (Nat.le_of_ble_eq_true rfl) ?_
  intro p e s m args below meth c A ls hx hb hml hr hlk hnm hC hLS hA hw hl
  have hC : cx D τ s m args RX12 := hC
  have hl : lv_has ls 2 [(0, .ref (ad 1)), (1, .int (iI p1))] := hl
  unfold qX12_turnsTo at hv
  refine lv_aload_n hx hb dX12_turnsTo_0 rfl (lv_at hl 0 rfl) ?_
  refine r_iconst hx hb dX12_turnsTo_1 ?_
  obtain ⟨M1, e1⟩ : ∃ M1 : Mem, M1 = up2 M 1 0 0 := ⟨_, rfl⟩
  have hv := hv M1 e1
  refine pf_X12_112 (ws' := (WM τ ad M1)) hx hb hC hw 1 (gM_1 τ ad M) (Nat.le_of_ble_eq_true rfl) (by rw [e1]; exact sM_1_0 τ ad M _) dX12_turnsTo_2 (fun H locs hw => ?_)
  have hM : MR M1 := by rw [e1]; exact hM.put (by decide) (by decide)
  refine lv_aload_n hx hb dX12_turnsTo_5 rfl (lv_at hl 0 rfl) ?_
  refine k_cVv (wq_M τ ad) hx hb hml hC hLS hA hw hl.1 (mX12_putsBy l D τ ad sA sV _   M1 hM _ hv) kX12_putsBy ml_X12_352 rfl (gM_1 τ ad M1) rfl rfl (Nat.le_of_ble_eq_true rfl) (rm_ok (by decide) (by decide)) ⟨Nat.zero_le _, Nat.zero_le _⟩ dX12_turnsTo_6 (fun M2 H locs hM hv hw => ?_)
  refine lv_aload_n hx hb dX12_turnsTo_9 rfl (lv_at hl 0 rfl) ?_
  refine lv_aload_n hx hb dX12_turnsTo_10 rfl (lv_at hl 0 rfl) ?_
  refine lv_aload_n hx hb dX12_turnsTo_11 rfl (lv_at hl 0 rfl) ?_
  refine gf_X12_31 hx hb hC hw 1 (gM_1 τ ad M2) rfl dX12_turnsTo_12 ?_
  refine lv_iload_n hx hb dX12_turnsTo_15 rfl (lv_at hl 1 rfl) ?_
  refine k_cVi (wq_M τ ad) hx hb hml hC hLS hA hw hl.1 (mX12_turnsOne l D τ ad sA sV _ 5 p1 aM_5 hp1 M2 hM _ hv) kX12_turnsOne ml_X12_362 rfl (gM_1 τ ad M2) rfl rfl (Nat.le_of_ble_eq_true rfl) (rm_ok (by decide) (by decide)) ⟨Nat.zero_le _, Nat.zero_le _⟩ dX12_turnsTo_16 (fun x3 M3 H locs g3 hM hv hw => ?_)
  have hv := hv g3
  refine k_cVi (wq_M τ ad) hx hb hml hC hLS hA hw hl.1 (mX12_counted l D τ ad sA sV _ x3 g3 M3 hM _ hv) kX12_counted ml_X12_365 rfl (gM_1 τ ad M3) rfl rfl (Nat.le_of_ble_eq_true rfl) (rm_ok (by decide) (by decide)) ⟨Nat.zero_le _, Nat.zero_le _⟩ dX12_turnsTo_19 (fun x4 M4 H locs g4 hM hv hw => ?_)
  have hv := hv g4
  exact k_iret (wq_M τ ad) hx hb hr hlk hw hM g4 hv dX12_turnsTo_22
set_option maxHeartbeats 4000000 in
set_option maxRecDepth 100000 in
theorem mX12_pushesOne (l : Launch) (D : va_G) (τ : Nat → ClassId) (ad : Nat → Nat) (sA sV : Nat → Nat) (sz : Nat) (k1 : Nat) (p2 : Int) (p3 : Int) (hk1 : MI 38 k1) (hp2 : iR p2) (hp3 : iR p3) (M : Mem) (hM : MR M) (Q : Int → Mem → Prop) (hv : qX12_pushesOne k1 p2 p3 M Q) : Met l yX12_pushesOne (lw_w yX12_pushesOne cX12_pushesOne 4 (some .int)) (rmk 3 0 0) (kPc D τ sA sV (WM τ ad M) sz [.ref (ad 1), .ref (ad k1), .int (iI p2), .int (iI p3)]) (gQi D (EQi (WM τ ad) MR Q) (va_A (WM τ ad M) sz)) 0 0 (va_A (WM τ ad M) sz) := by
  refine k_met (ret := (some .int)) (Qc := gQi D (EQi (WM τ ad) MR Q)) (by decide +kernel) (Nat.le_of_ble_eq_true rfl) ?_
  intro p e s m args below meth c A ls hx hb hml hr hlk hnm hC hLS hA hw hl
  have hC : cx D τ s m args RX12 := hC
  have hl : lv_has ls 4 [(0, .ref (ad 1)), (1, .ref (ad k1)), (2, .int (iI p2)), (3, .int (iI p3))] := hl
  unfold qX12_pushesOne at hv
  refine lv_aload_n hx hb dX12_pushesOne_0 rfl (lv_at hl 0 rfl) ?_
  refine lv_iload_n hx hb dX12_pushesOne_1 rfl (lv_at hl 2 rfl) ?_
  refine k_cVz (wq_M τ ad) hx hb hml hC hLS hA hw hl.1 (mX12_isMourner l D τ ad sA sV _ p2 hp2 M hM _ hv) kX12_isMourner ml_X12_308 rfl (gM_1 τ ad M) rfl rfl (Nat.le_of_ble_eq_true rfl) (rm_ok (by decide) (by decide)) ⟨Nat.zero_le _, Nat.zero_le _⟩ dX12_pushesOne_2 (fun x1 M1 H locs g1 z1 hM hv hw => ?_)
  have hv := hv g1 z1
  refine r_if_eq (tgt := 26) hx hb dX12_pushesOne_5 (by decide) g1  (fun b2 => ?_) (fun b2 => ?_)
  · have hv := hv.1 b2
    refine r_iconst hx hb dX12_pushesOne_26 ?_
    exact k_iret (wq_M τ ad) hx hb hr hlk hw hM (by decide) hv dX12_pushesOne_27
  · have hv := hv.2 b2
    refine lv_iload_n hx hb dX12_pushesOne_8 rfl (lv_at hl 3 rfl) ?_
    refine r_i2l hx hb dX12_pushesOne_9 hp3 ?_
    refine r_ldc2 (z := (-9)) hx hb hC ct_X12_346 (by decide +kernel) dX12_pushesOne_10 ?_
    refine r_ldc2 (z := 9) hx hb hC ct_X12_348 (by decide +kernel) dX12_pushesOne_13 ?_
    refine k_cSz (wq_M τ ad) hx hb hml hC hLS hA hw hl.1 (mX12_in l D τ ad sA sV _ p3 (-9) 9 (iR_lR hp3) (by decide) (by decide) M1 hM _ hv) kX12_in ml_X12_125 rfl rfl (Nat.le_of_ble_eq_true rfl) (rm_ok (by decide) (by decide)) ⟨Nat.zero_le _, Nat.zero_le _⟩ dX12_pushesOne_16 (fun x3 M3 H locs g3 z3 hM hv hw => ?_)
    have hv := hv g3 z3
    refine r_if_eq (tgt := 26) hx hb dX12_pushesOne_19 (by decide) g3  (fun b4 => ?_) (fun b4 => ?_)
    · have hv := hv.1 b4
      refine r_iconst hx hb dX12_pushesOne_26 ?_
      exact k_iret (wq_M τ ad) hx hb hr hlk hw hM (by decide) hv dX12_pushesOne_27
    · have hv := hv.2 b4
      refine lv_iload_n hx hb dX12_pushesOne_22 rfl (lv_at hl 3 rfl) ?_
      refine r_if_ne (tgt := 28) hx hb dX12_pushesOne_23 (by decide) hp3  (fun b5 => ?_) (fun b5 => ?_)
      · have hv := hv.1 b5
        refine lv_aload_n hx hb dX12_pushesOne_28 rfl (lv_at hl 1 rfl) ?_
        refine lv_iload_n hx hb dX12_pushesOne_29 rfl (lv_at hl 2 rfl) ?_
        refine k_cSz (wq_M τ ad) hx hb hml hC hLS hA hw hl.1 (mX12_isEnded l D τ ad sA sV _ k1 p2 hk1 hp2 M3 hM _ hv) kX12_isEnded ml_X12_132 rfl rfl (Nat.le_of_ble_eq_true rfl) (rm_ok (by decide) (by decide)) ⟨Nat.zero_le _, Nat.zero_le _⟩ dX12_pushesOne_30 (fun x6 M6 H locs g6 z6 hM hv hw => ?_)
        have hv := hv g6 z6
        refine r_if_eq (tgt := 39) hx hb dX12_pushesOne_33 (by decide) g6  (fun b7 => ?_) (fun b7 => ?_)
        · have hv := hv.1 b7
          refine lv_aload_n hx hb dX12_pushesOne_39 rfl (lv_at hl 1 rfl) ?_
          refine r_bipush hx hb dX12_pushesOne_40 (by decide +kernel) ?_
          refine lv_iload_n hx hb dX12_pushesOne_42 rfl (lv_at hl 2 rfl) ?_
          refine r_iadd (z := (13 + p2)) hx hb dX12_pushesOne_43 rfl ?_
          refine r_iconst hx hb dX12_pushesOne_44 ?_
          refine lv_aload_n hx hb dX12_pushesOne_45 rfl (lv_at hl 0 rfl) ?_
          refine k_cVi (wq_M τ ad) hx hb hml hC hLS hA hw hl.1 (mX12_gate l D τ ad sA sV _   M6 hM _ hv) kX12_gate ml_X12_192 rfl (gM_1 τ ad M6) rfl rfl (Nat.le_of_ble_eq_true rfl) (rm_ok (by decide) (by decide)) ⟨Nat.zero_le _, Nat.zero_le _⟩ dX12_pushesOne_46 (fun x8 M8 H locs g8 hM hv hw => ?_)
          have hv := hv g8
          refine r_iconst hx hb dX12_pushesOne_49 ?_
          refine r_isub (z := (x8 - 1)) hx hb dX12_pushesOne_50 rfl ?_
          refine lv_aload_n hx hb dX12_pushesOne_51 rfl (lv_at hl 1 rfl) ?_
          refine r_bipush hx hb dX12_pushesOne_52 (by decide +kernel) ?_
          refine lv_iload_n hx hb dX12_pushesOne_54 rfl (lv_at hl 2 rfl) ?_
          refine r_iadd (z := (13 + p2)) hx hb dX12_pushesOne_55 rfl ?_
          obtain ⟨c9, hv⟩ := hv
          obtain ⟨c10, hv⟩ := hv
          refine r_iald hx hb hC hw k1 (gI_M hk1 τ ad M8) c9 c10 (by decide) dX12_pushesOne_56 ?_
          refine r_top (fun x11 e11 => ?_)
          have g11 : iR x11 := by rw [e11]; exact hM.get hk1.pos _
          have hv := hv x11 e11 g11
          refine lv_iload_n hx hb dX12_pushesOne_57 rfl (lv_at hl 3 rfl) ?_
          refine r_iadd (z := (x11 + p3)) hx hb dX12_pushesOne_58 rfl ?_
          obtain ⟨c12, hv⟩ := hv
          obtain ⟨c13, hv⟩ := hv
          refine r_mminF hx hb hml hC hl.1 ml_X12_145 sm_min in_J9 cd_min (by decide) (Nat.le_of_ble_eq_true rfl) (Nat.zero_le _) (Nat.zero_le _) c12 c13 dX12_pushesOne_59 (fun x14 e14 g14 => ?_)
          have hv := hv x14 e14 g14
          refine r_mmaxF hx hb hml hC hl.1 ml_X12_287 sm_max in_J9 cd_max (by decide) (Nat.le_of_ble_eq_true rfl) (Nat.zero_le _) (Nat.zero_le _) (by decide) g14 dX12_pushesOne_62 (fun x15 e15 g15 => ?_)
          have hv := hv x15 e15 g15
          obtain ⟨M16, e16⟩ : ∃ M16 : Mem, M16 = up2 M8 k1 (13 + p2) x15 := ⟨_, rfl⟩
          have hv := hv M16 e16
          refine r_iast (ws' := (WM τ ad M16)) hx hb hC hw k1 (gI_M hk1 τ ad M8) c9 c10 (by decide) (by rw [e16]; exact sI_M hk1 τ ad M8 _ _) dX12_pushesOne_65 (fun H locs hw => ?_)
          have hM : MR M16 := by rw [e16]; exact hM.put hk1.pos g15
          refine lv_aload_n hx hb dX12_pushesOne_66 rfl (lv_at hl 1 rfl) ?_
          refine r_bipush hx hb dX12_pushesOne_67 (by decide +kernel) ?_
          refine lv_iload_n hx hb dX12_pushesOne_69 rfl (lv_at hl 2 rfl) ?_
          refine r_iadd (z := (13 + p2)) hx hb dX12_pushesOne_70 rfl ?_
          refine r_iald hx hb hC hw k1 (gI_M hk1 τ ad M16) c9 c10 (by decide) dX12_pushesOne_71 ?_
          refine r_top (fun x17 e17 => ?_)
          have g17 : iR x17 := by rw [e17]; exact hM.get hk1.pos _
          have hv := hv x17 e17 g17
          exact k_iret (wq_M τ ad) hx hb hr hlk hw hM g17 hv dX12_pushesOne_72
        · have hv := hv.2 b7
          refine r_bipush hx hb dX12_pushesOne_36 (by decide +kernel) ?_
          exact k_iret (wq_M τ ad) hx hb hr hlk hw hM (by decide) hv dX12_pushesOne_38
      · have hv := hv.2 b5
        refine r_iconst hx hb dX12_pushesOne_26 ?_
        exact k_iret (wq_M τ ad) hx hb hr hlk hw hM (by decide) hv dX12_pushesOne_27
set_option maxHeartbeats 4000000 in
set_option maxRecDepth 100000 in
theorem mX12_pushes (l : Launch) (D : va_G) (τ : Nat → ClassId) (ad : Nat → Nat) (sA sV : Nat → Nat) (sz : Nat) (p1 : Int) (p2 : Int) (hp1 : iR p1) (hp2 : iR p2) (M : Mem) (hM : MR M) (Q : Int → Mem → Prop) (hv : qX12_pushes p1 p2 M Q) : Met l yX12_pushes (lw_w yX12_pushes cX12_pushes 3 (some .int)) (rmk 4 0 0) (kPc D τ sA sV (WM τ ad M) sz [.ref (ad 1), .int (iI p1), .int (iI p2)]) (gQi D (EQi (WM τ ad) MR Q) (va_A (WM τ ad M) sz)) 0 0 (va_A (WM τ ad M) sz) := by
  refine k_met (ret := (some .int)) (Qc := gQi D (EQi (WM τ ad) MR Q)) (by decide +kernel) (Nat.le_of_ble_eq_true rfl) ?_
  intro p e s m args below meth c A ls hx hb hml hr hlk hnm hC hLS hA hw hl
  have hC : cx D τ s m args RX12 := hC
  have hl : lv_has ls 3 [(0, .ref (ad 1)), (1, .int (iI p1)), (2, .int (iI p2))] := hl
  unfold qX12_pushes at hv
  refine lv_aload_n hx hb dX12_pushes_0 rfl (lv_at hl 0 rfl) ?_
  refine r_iconst hx hb dX12_pushes_1 ?_
  obtain ⟨M1, e1⟩ : ∃ M1 : Mem, M1 = up2 M 1 0 0 := ⟨_, rfl⟩
  have hv := hv M1 e1
  refine pf_X12_112 (ws' := (WM τ ad M1)) hx hb hC hw 1 (gM_1 τ ad M) (Nat.le_of_ble_eq_true rfl) (by rw [e1]; exact sM_1_0 τ ad M _) dX12_pushes_2 (fun H locs hw => ?_)
  have hM : MR M1 := by rw [e1]; exact hM.put (by decide) (by decide)
  refine lv_aload_n hx hb dX12_pushes_5 rfl (lv_at hl 0 rfl) ?_
  refine k_cVv (wq_M τ ad) hx hb hml hC hLS hA hw hl.1 (mX12_putsBy l D τ ad sA sV _   M1 hM _ hv) kX12_putsBy ml_X12_352 rfl (gM_1 τ ad M1) rfl rfl (Nat.le_of_ble_eq_true rfl) (rm_ok (by decide) (by decide)) ⟨Nat.zero_le _, Nat.zero_le _⟩ dX12_pushes_6 (fun M2 H locs hM hv hw => ?_)
  refine lv_aload_n hx hb dX12_pushes_9 rfl (lv_at hl 0 rfl) ?_
  refine lv_aload_n hx hb dX12_pushes_10 rfl (lv_at hl 0 rfl) ?_
  refine lv_aload_n hx hb dX12_pushes_11 rfl (lv_at hl 0 rfl) ?_
  refine gf_X12_31 hx hb hC hw 1 (gM_1 τ ad M2) rfl dX12_pushes_12 ?_
  refine lv_iload_n hx hb dX12_pushes_15 rfl (lv_at hl 1 rfl) ?_
  refine lv_iload_n hx hb dX12_pushes_16 rfl (lv_at hl 2 rfl) ?_
  refine k_cVi (wq_M τ ad) hx hb hml hC hLS hA hw hl.1 (mX12_pushesOne l D τ ad sA sV _ 5 p1 p2 aM_5 hp1 hp2 M2 hM _ hv) kX12_pushesOne ml_X12_368 rfl (gM_1 τ ad M2) rfl rfl (Nat.le_of_ble_eq_true rfl) (rm_ok (by decide) (by decide)) ⟨Nat.zero_le _, Nat.zero_le _⟩ dX12_pushes_17 (fun x3 M3 H locs g3 hM hv hw => ?_)
  have hv := hv g3
  refine k_cVi (wq_M τ ad) hx hb hml hC hLS hA hw hl.1 (mX12_counted l D τ ad sA sV _ x3 g3 M3 hM _ hv) kX12_counted ml_X12_365 rfl (gM_1 τ ad M3) rfl rfl (Nat.le_of_ble_eq_true rfl) (rm_ok (by decide) (by decide)) ⟨Nat.zero_le _, Nat.zero_le _⟩ dX12_pushes_20 (fun x4 M4 H locs g4 hM hv hw => ?_)
  have hv := hv g4
  exact k_iret (wq_M τ ad) hx hb hr hlk hw hM g4 hv dX12_pushes_23
set_option maxHeartbeats 4000000 in
set_option maxRecDepth 100000 in
theorem mX12_swapsTwo (l : Launch) (D : va_G) (τ : Nat → ClassId) (ad : Nat → Nat) (sA sV : Nat → Nat) (sz : Nat) (p1 : Int) (p2 : Int) (hp1 : iR p1) (hp2 : iR p2) (M : Mem) (hM : MR M) (Q : Int → Mem → Prop) (hv : qX12_swapsTwo p1 p2 M Q) : Met l yX12_swapsTwo (lw_w yX12_swapsTwo cX12_swapsTwo 4 (some .int)) (rmk 3 0 0) (kPc D τ sA sV (WM τ ad M) sz [.ref (ad 1), .int (iI p1), .int (iI p2)]) (gQi D (EQi (WM τ ad) MR Q) (va_A (WM τ ad M) sz)) 0 0 (va_A (WM τ ad M) sz) := by
  refine k_met (ret := (some .int)) (Qc := gQi D (EQi (WM τ ad) MR Q)) (by decide +kernel) (Nat.le_of_ble_eq_true rfl) ?_
  intro p e s m args below meth c A ls hx hb hml hr hlk hnm hC hLS hA hw hl
  have hC : cx D τ s m args RX12 := hC
  have hl : lv_has ls 4 [(0, .ref (ad 1)), (1, .int (iI p1)), (2, .int (iI p2))] := hl
  unfold qX12_swapsTwo at hv
  refine lv_aload_n hx hb dX12_swapsTwo_0 rfl (lv_at hl 0 rfl) ?_
  refine lv_iload_n hx hb dX12_swapsTwo_1 rfl (lv_at hl 1 rfl) ?_
  refine k_cVz (wq_M τ ad) hx hb hml hC hLS hA hw hl.1 (mX12_isHearse l D τ ad sA sV _ p1 hp1 M hM _ hv) kX12_isHearse ml_X12_294 rfl (gM_1 τ ad M) rfl rfl (Nat.le_of_ble_eq_true rfl) (rm_ok (by decide) (by decide)) ⟨Nat.zero_le _, Nat.zero_le _⟩ dX12_swapsTwo_2 (fun x1 M1 H locs g1 z1 hM hv hw => ?_)
  have hv := hv g1 z1
  refine r_if_eq (tgt := 21) hx hb dX12_swapsTwo_5 (by decide) g1  (fun b2 => ?_) (fun b2 => ?_)
  · have hv := hv.1 b2
    refine r_iconst hx hb dX12_swapsTwo_21 ?_
    exact k_iret (wq_M τ ad) hx hb hr hlk hw hM (by decide) hv dX12_swapsTwo_22
  · have hv := hv.2 b2
    refine lv_aload_n hx hb dX12_swapsTwo_8 rfl (lv_at hl 0 rfl) ?_
    refine lv_iload_n hx hb dX12_swapsTwo_9 rfl (lv_at hl 2 rfl) ?_
    refine k_cVz (wq_M τ ad) hx hb hml hC hLS hA hw hl.1 (mX12_isHearse l D τ ad sA sV _ p2 hp2 M1 hM _ hv) kX12_isHearse ml_X12_294 rfl (gM_1 τ ad M1) rfl rfl (Nat.le_of_ble_eq_true rfl) (rm_ok (by decide) (by decide)) ⟨Nat.zero_le _, Nat.zero_le _⟩ dX12_swapsTwo_10 (fun x3 M3 H locs g3 z3 hM hv hw => ?_)
    have hv := hv g3 z3
    refine r_if_eq (tgt := 21) hx hb dX12_swapsTwo_13 (by decide) g3  (fun b4 => ?_) (fun b4 => ?_)
    · have hv := hv.1 b4
      refine r_iconst hx hb dX12_swapsTwo_21 ?_
      exact k_iret (wq_M τ ad) hx hb hr hlk hw hM (by decide) hv dX12_swapsTwo_22
    · have hv := hv.2 b4
      refine lv_iload_n hx hb dX12_swapsTwo_16 rfl (lv_at hl 1 rfl) ?_
      refine lv_iload_n hx hb dX12_swapsTwo_17 rfl (lv_at hl 2 rfl) ?_
      refine r_icmp_ne (tgt := 23) hx hb dX12_swapsTwo_18 (by decide) hp1 hp2 (fun b5 => ?_) (fun b5 => ?_)
      · have hv := hv.1 b5
        refine lv_aload_n hx hb dX12_swapsTwo_23 rfl (lv_at hl 0 rfl) ?_
        refine gf_X12_31 hx hb hC hw 1 (gM_1 τ ad M3) rfl dX12_swapsTwo_24 ?_
        refine lv_iload_n hx hb dX12_swapsTwo_27 rfl (lv_at hl 1 rfl) ?_
        refine k_cSz (wq_M τ ad) hx hb hml hC hLS hA hw hl.1 (mX12_isOn l D τ ad sA sV _ 5 p1 aM_5 hp1 M3 hM _ hv) kX12_isOn ml_X12_266 rfl rfl (Nat.le_of_ble_eq_true rfl) (rm_ok (by decide) (by decide)) ⟨Nat.zero_le _, Nat.zero_le _⟩ dX12_swapsTwo_28 (fun x6 M6 H locs g6 z6 hM hv hw => ?_)
        have hv := hv g6 z6
        refine r_if_eq (tgt := 45) hx hb dX12_swapsTwo_31 (by decide) g6  (fun b7 => ?_) (fun b7 => ?_)
        · have hv := hv.1 b7
          refine r_bipush hx hb dX12_swapsTwo_45 (by decide +kernel) ?_
          exact k_iret (wq_M τ ad) hx hb hr hlk hw hM (by decide) hv dX12_swapsTwo_47
        · have hv := hv.2 b7
          refine lv_aload_n hx hb dX12_swapsTwo_34 rfl (lv_at hl 0 rfl) ?_
          refine gf_X12_31 hx hb hC hw 1 (gM_1 τ ad M6) rfl dX12_swapsTwo_35 ?_
          refine lv_iload_n hx hb dX12_swapsTwo_38 rfl (lv_at hl 2 rfl) ?_
          refine k_cSz (wq_M τ ad) hx hb hml hC hLS hA hw hl.1 (mX12_isOn l D τ ad sA sV _ 5 p2 aM_5 hp2 M6 hM _ hv) kX12_isOn ml_X12_266 rfl rfl (Nat.le_of_ble_eq_true rfl) (rm_ok (by decide) (by decide)) ⟨Nat.zero_le _, Nat.zero_le _⟩ dX12_swapsTwo_39 (fun x8 M8 H locs g8 z8 hM hv hw => ?_)
          have hv := hv g8 z8
          refine r_if_ne (tgt := 48) hx hb dX12_swapsTwo_42 (by decide) g8  (fun b9 => ?_) (fun b9 => ?_)
          · have hv := hv.1 b9
            refine lv_aload_n hx hb dX12_swapsTwo_48 rfl (lv_at hl 0 rfl) ?_
            refine gf_X12_31 hx hb hC hw 1 (gM_1 τ ad M8) rfl dX12_swapsTwo_49 ?_
            refine lv_iload_n hx hb dX12_swapsTwo_52 rfl (lv_at hl 1 rfl) ?_
            obtain ⟨c10, hv⟩ := hv
            obtain ⟨c11, hv⟩ := hv
            refine r_iald hx hb hC hw 5 (gI_M aM_5 τ ad M8) c10 c11 (by decide) dX12_swapsTwo_53 ?_
            refine r_top (fun x12 e12 => ?_)
            have g12 : iR x12 := by rw [e12]; exact hM.get aM_5.pos _
            have hv := hv x12 e12 g12
            refine lv_istore_n (lv' := [(3, .int (iI x12)), (0, .ref (ad 1)), (1, .int (iI p1)), (2, .int (iI p2))]) hx hb dX12_swapsTwo_54 rfl hl (by decide) rfl (fun ls hl => ?_)
            refine lv_aload_n hx hb dX12_swapsTwo_55 rfl (lv_at hl 1 rfl) ?_
            refine gf_X12_31 hx hb hC hw 1 (gM_1 τ ad M8) rfl dX12_swapsTwo_56 ?_
            refine lv_iload_n hx hb dX12_swapsTwo_59 rfl (lv_at hl 2 rfl) ?_
            refine lv_aload_n hx hb dX12_swapsTwo_60 rfl (lv_at hl 1 rfl) ?_
            refine gf_X12_31 hx hb hC hw 1 (gM_1 τ ad M8) rfl dX12_swapsTwo_61 ?_
            refine lv_iload_n hx hb dX12_swapsTwo_64 rfl (lv_at hl 3 rfl) ?_
            obtain ⟨c13, hv⟩ := hv
            obtain ⟨c14, hv⟩ := hv
            refine r_iald hx hb hC hw 5 (gI_M aM_5 τ ad M8) c13 c14 (by decide) dX12_swapsTwo_65 ?_
            refine r_top (fun x15 e15 => ?_)
            have g15 : iR x15 := by rw [e15]; exact hM.get aM_5.pos _
            have hv := hv x15 e15 g15
            obtain ⟨M16, e16⟩ : ∃ M16 : Mem, M16 = up2 M8 5 p1 x15 := ⟨_, rfl⟩
            have hv := hv M16 e16
            refine r_iast (ws' := (WM τ ad M16)) hx hb hC hw 5 (gI_M aM_5 τ ad M8) c10 c11 (by decide) (by rw [e16]; exact sI_M aM_5 τ ad M8 _ _) dX12_swapsTwo_66 (fun H locs hw => ?_)
            have hM : MR M16 := by rw [e16]; exact hM.put aM_5.pos g15
            refine lv_aload_n hx hb dX12_swapsTwo_67 rfl (lv_at hl 1 rfl) ?_
            refine gf_X12_31 hx hb hC hw 1 (gM_1 τ ad M16) rfl dX12_swapsTwo_68 ?_
            refine lv_iload_n hx hb dX12_swapsTwo_71 rfl (lv_at hl 3 rfl) ?_
            refine lv_iload_n hx hb dX12_swapsTwo_72 rfl (lv_at hl 0 rfl) ?_
            obtain ⟨M17, e17⟩ : ∃ M17 : Mem, M17 = up2 M16 5 p2 x12 := ⟨_, rfl⟩
            have hv := hv M17 e17
            refine r_iast (ws' := (WM τ ad M17)) hx hb hC hw 5 (gI_M aM_5 τ ad M16) c13 c14 (by decide) (by rw [e17]; exact sI_M aM_5 τ ad M16 _ _) dX12_swapsTwo_73 (fun H locs hw => ?_)
            have hM : MR M17 := by rw [e17]; exact hM.put aM_5.pos g12
            refine lv_aload_n hx hb dX12_swapsTwo_74 rfl (lv_at hl 1 rfl) ?_
            refine gf_X12_31 hx hb hC hw 1 (gM_1 τ ad M17) rfl dX12_swapsTwo_75 ?_
            refine lv_iload_n hx hb dX12_swapsTwo_78 rfl (lv_at hl 2 rfl) ?_
            refine r_iald hx hb hC hw 5 (gI_M aM_5 τ ad M17) c10 c11 (by decide) dX12_swapsTwo_79 ?_
            refine r_top (fun x18 e18 => ?_)
            have g18 : iR x18 := by rw [e18]; exact hM.get aM_5.pos _
            have hv := hv x18 e18 g18
            refine lv_aload_n hx hb dX12_swapsTwo_80 rfl (lv_at hl 1 rfl) ?_
            refine gf_X12_31 hx hb hC hw 1 (gM_1 τ ad M17) rfl dX12_swapsTwo_81 ?_
            refine lv_iload_n hx hb dX12_swapsTwo_84 rfl (lv_at hl 3 rfl) ?_
            refine r_iald hx hb hC hw 5 (gI_M aM_5 τ ad M17) c13 c14 (by decide) dX12_swapsTwo_85 ?_
            refine r_top (fun x19 e19 => ?_)
            have g19 : iR x19 := by rw [e19]; exact hM.get aM_5.pos _
            have hv := hv x19 e19 g19
            refine r_isub (z := (x18 - x19)) hx hb dX12_swapsTwo_86 rfl ?_
            obtain ⟨c20, hv⟩ := hv
            refine r_mabs hx hb hml hC hl.1 ml_X12_290 sm_abs in_J9 cd_abs (by decide) (Nat.le_of_ble_eq_true rfl) (Nat.zero_le _) (Nat.zero_le _) c20 dX12_swapsTwo_87 (fun x21 e21 g21 => ?_)
            have hv := hv x21 e21 g21
            obtain ⟨c22, hv⟩ := hv
            exact k_iret (wq_M τ ad) hx hb hr hlk hw hM c22 hv dX12_swapsTwo_90
          · have hv := hv.2 b9
            refine r_bipush hx hb dX12_swapsTwo_45 (by decide +kernel) ?_
            exact k_iret (wq_M τ ad) hx hb hr hlk hw hM (by decide) hv dX12_swapsTwo_47
      · have hv := hv.2 b5
        refine r_iconst hx hb dX12_swapsTwo_21 ?_
        exact k_iret (wq_M τ ad) hx hb hr hlk hw hM (by decide) hv dX12_swapsTwo_22
