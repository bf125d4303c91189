section
set_option maxHeartbeats 4000000 in
set_option maxRecDepth 100000 in
theorem mX12_isSo (l : Launch) (D : va_G) (τ : Nat → ClassId) (ad : Nat → Nat) (sA sV : Nat → Nat) (sz : Nat) (p1 : Int) (p2 : Int) (p3 : Int) (hp1 : iR p1) (hp2 : iR p2) (hp3 : iR p3) (M : Mem) (hM : MR M) (Q : Int → Mem → Prop) (hv : qX12_isSo p1 p2 p3 M Q) : Met l yX12_isSo (lw_w yX12_isSo cX12_isSo 4 (some .boolean)) (rmk 2 0 0) (kPc D τ sA sV (WM τ ad M) sz [.ref (ad 1), .int (iI p1), .int (iI p2), .int (iI p3)]) (gQi D (EQz (WM τ ad) MR Q) (va_A (WM τ ad M) sz)) 0 0 (va_A (WM τ ad M) sz) := by
  refine k_met (ret := (some .boolean)) (Qc := gQi D (EQz (WM τ ad) MR Q)) (by decide +kernel) (Nat.le_of_ble_eq_true rfl) ?_
  intro p e s m args below meth c A ls hx hb hml hr hlk hnm hC hLS hA hw hl
  have hC : cx D τ s m args RX12 := hC
  have hl : lv_has ls 4 [(0, .ref (ad 1)), (1, .int (iI p1)), (2, .int (iI p2)), (3, .int (iI p3))] := hl
  unfold qX12_isSo at hv
  refine lv_iload_n hx hb dX12_isSo_0 rfl (lv_at hl 2 rfl) ?_
  rcases (show p2 = 0 ∨ p2 = 1 ∨ p2 = 2 ∨ (p2 < 0 ∨ 2 < p2) by omega) with b1 | b1 | b1 | b1
  · refine r_tblI (tgt := 28) hx hb dX12_isSo_1 hp2 (by omega) (by omega) (by rw [b1]; first | done | rfl) (by decide) ?_
    have hv := hv.1 b1
    refine lv_aload_n hx hb dX12_isSo_28 rfl (lv_at hl 0 rfl) ?_
    refine lv_iload_n hx hb dX12_isSo_29 rfl (lv_at hl 1 rfl) ?_
    refine k_cVi (wq_M τ ad) hx hb hml hC hLS hA hw hl.1 (mX12_owners l D τ ad sA sV _ p1 hp1 M hM _ hv) kX12_owners ml_X12_305 rfl (gM_1 τ ad M) rfl rfl (Nat.le_of_ble_eq_true rfl) (rm_ok (by decide) (by decide)) ⟨Nat.zero_le _, Nat.zero_le _⟩ dX12_isSo_30 (fun x2 M2 H locs g2 hM hv hw => ?_)
    have hv := hv g2
    refine k_cSi (wq_M τ ad) hx hb hml hC hLS hA hw hl.1 (mJ6_bitCount_0f7a4M l D τ ad sA sV _ x2 g2 M2 hM _ hv) kJ6_bitCount_0f7a4 ml_X12_279 rfl rfl (Nat.le_of_ble_eq_true rfl) (rm_ok (by decide) (by decide)) ⟨Nat.zero_le _, Nat.zero_le _⟩ dX12_isSo_33 (fun x3 M3 H locs g3 hM hv hw => ?_)
    have hv := hv g3
    refine lv_iload_n hx hb dX12_isSo_36 rfl (lv_at hl 3 rfl) ?_
    refine r_icmp_lt (tgt := 44) hx hb dX12_isSo_37 (by decide) g3 hp3 (fun b4 => ?_) (fun b4 => ?_)
    · have hv := hv.1 b4
      refine r_iconst hx hb dX12_isSo_44 ?_
      exact k_zret (wq_M τ ad) hx hb hr hlk hw hM (by decide) (by decide) hv dX12_isSo_45
    · have hv := hv.2 b4
      refine r_iconst hx hb dX12_isSo_40 ?_
      refine lv_goto (tgt := 45) hx hb dX12_isSo_41 (by decide) ?_
      exact k_zret (wq_M τ ad) hx hb hr hlk hw hM (by decide) (by decide) hv dX12_isSo_45
  · refine r_tblI (tgt := 46) hx hb dX12_isSo_1 hp2 (by omega) (by omega) (by rw [b1]; first | done | rfl) (by decide) ?_
    have hv := hv.2.1 b1
    refine lv_aload_n hx hb dX12_isSo_46 rfl (lv_at hl 0 rfl) ?_
    refine gf_X12_34 hx hb hC hw 1 (gM_1 τ ad M) rfl dX12_isSo_47 ?_
    refine lv_iload_n hx hb dX12_isSo_50 rfl (lv_at hl 1 rfl) ?_
    refine k_cSz (wq_M τ ad) hx hb hml hC hLS hA hw hl.1 (mX12_isOn l D τ ad sA sV _ 6 p1 aM_6 hp1 M hM _ hv) kX12_isOn ml_X12_266 rfl rfl (Nat.le_of_ble_eq_true rfl) (rm_ok (by decide) (by decide)) ⟨Nat.zero_le _, Nat.zero_le _⟩ dX12_isSo_51 (fun x5 M5 H locs g5 z5 hM hv hw => ?_)
    have hv := hv g5 z5
    refine r_if_ne (tgt := 74) hx hb dX12_isSo_54 (by decide) g5  (fun b6 => ?_) (fun b6 => ?_)
    · have hv := hv.1 b6
      refine r_iconst hx hb dX12_isSo_74 ?_
      exact k_zret (wq_M τ ad) hx hb hr hlk hw hM (by decide) (by decide) hv dX12_isSo_75
    · have hv := hv.2 b6
      refine lv_aload_n hx hb dX12_isSo_57 rfl (lv_at hl 0 rfl) ?_
      refine gf_X12_34 hx hb hC hw 1 (gM_1 τ ad M5) rfl dX12_isSo_58 ?_
      refine r_bipush hx hb dX12_isSo_61 (by decide +kernel) ?_
      refine lv_iload_n hx hb dX12_isSo_63 rfl (lv_at hl 1 rfl) ?_
      refine r_iadd (z := (6 + p1)) hx hb dX12_isSo_64 rfl ?_
      obtain ⟨c7, hv⟩ := hv
      obtain ⟨c8, hv⟩ := hv
      refine r_iald hx hb hC hw 6 (gI_M aM_6 τ ad M5) c7 c8 (by decide) dX12_isSo_65 ?_
      refine r_top (fun x9 e9 => ?_)
      have g9 : iR x9 := by rw [e9]; exact hM.get aM_6.pos _
      have hv := hv x9 e9 g9
      refine lv_iload_n hx hb dX12_isSo_66 rfl (lv_at hl 3 rfl) ?_
      refine r_icmp_ne (tgt := 74) hx hb dX12_isSo_67 (by decide) g9 hp3 (fun b10 => ?_) (fun b10 => ?_)
      · have hv := hv.1 b10
        refine r_iconst hx hb dX12_isSo_74 ?_
        exact k_zret (wq_M τ ad) hx hb hr hlk hw hM (by decide) (by decide) hv dX12_isSo_75
      · have hv := hv.2 b10
        refine r_iconst hx hb dX12_isSo_70 ?_
        refine lv_goto (tgt := 75) hx hb dX12_isSo_71 (by decide) ?_
        exact k_zret (wq_M τ ad) hx hb hr hlk hw hM (by decide) (by decide) hv dX12_isSo_75
  · refine r_tblI (tgt := 76) hx hb dX12_isSo_1 hp2 (by omega) (by omega) (by rw [b1]; first | done | rfl) (by decide) ?_
    have hv := hv.2.2.1 b1
    refine lv_aload_n hx hb dX12_isSo_76 rfl (lv_at hl 0 rfl) ?_
    refine lv_aload_n hx hb dX12_isSo_77 rfl (lv_at hl 0 rfl) ?_
    refine gf_X12_34 hx hb hC hw 1 (gM_1 τ ad M) rfl dX12_isSo_78 ?_
    refine r_bipush hx hb dX12_isSo_81 (by decide +kernel) ?_
    refine lv_iload_n hx hb dX12_isSo_83 rfl (lv_at hl 1 rfl) ?_
    refine k_cVi (wq_M τ ad) hx hb hml hC hLS hA hw hl.1 (mX12_bitsBy l D τ ad sA sV _ 6 29 p1 aM_6 (by decide) hp1 M hM _ hv) kX12_bitsBy ml_X12_275 rfl (gM_1 τ ad M) rfl rfl (Nat.le_of_ble_eq_true rfl) (rm_ok (by decide) (by decide)) ⟨Nat.zero_le _, Nat.zero_le _⟩ dX12_isSo_84 (fun x11 M11 H locs g11 hM hv hw => ?_)
    have hv := hv g11
    refine k_cSi (wq_M τ ad) hx hb hml hC hLS hA hw hl.1 (mJ6_bitCount_0f7a4M l D τ ad sA sV _ x11 g11 M11 hM _ hv) kJ6_bitCount_0f7a4 ml_X12_279 rfl rfl (Nat.le_of_ble_eq_true rfl) (rm_ok (by decide) (by decide)) ⟨Nat.zero_le _, Nat.zero_le _⟩ dX12_isSo_87 (fun x12 M12 H locs g12 hM hv hw => ?_)
    have hv := hv g12
    refine lv_iload_n hx hb dX12_isSo_90 rfl (lv_at hl 3 rfl) ?_
    refine r_icmp_lt (tgt := 98) hx hb dX12_isSo_91 (by decide) g12 hp3 (fun b13 => ?_) (fun b13 => ?_)
    · have hv := hv.1 b13
      refine r_iconst hx hb dX12_isSo_98 ?_
      exact k_zret (wq_M τ ad) hx hb hr hlk hw hM (by decide) (by decide) hv dX12_isSo_99
    · have hv := hv.2 b13
      refine r_iconst hx hb dX12_isSo_94 ?_
      refine lv_goto (tgt := 99) hx hb dX12_isSo_95 (by decide) ?_
      exact k_zret (wq_M τ ad) hx hb hr hlk hw hM (by decide) (by decide) hv dX12_isSo_99
  · refine r_tblO (tgt := 100) hx hb dX12_isSo_1 hp2 b1 (by decide) ?_
    have hv := hv.2.2.2 b1
    refine lv_iload_n hx hb dX12_isSo_100 rfl (lv_at hl 1 rfl) ?_
    refine r_iconst hx hb dX12_isSo_101 ?_
    refine r_iremF hx hb dX12_isSo_102 (by decide) (by decide) (fun x14 e14 g14 => ?_)
    have hv := hv x14 e14 g14
    refine lv_iload_n hx hb dX12_isSo_103 rfl (lv_at hl 3 rfl) ?_
    refine r_icmp_ne (tgt := 111) hx hb dX12_isSo_104 (by decide) g14 hp3 (fun b15 => ?_) (fun b15 => ?_)
    · have hv := hv.1 b15
      refine r_iconst hx hb dX12_isSo_111 ?_
      exact k_zret (wq_M τ ad) hx hb hr hlk hw hM (by decide) (by decide) hv dX12_isSo_112
    · have hv := hv.2 b15
      refine r_iconst hx hb dX12_isSo_107 ?_
      refine lv_goto (tgt := 112) hx hb dX12_isSo_108 (by decide) ?_
      exact k_zret (wq_M τ ad) hx hb hr hlk hw hM (by decide) (by decide) hv dX12_isSo_112
set_option maxHeartbeats 4000000 in
set_option maxRecDepth 100000 in
theorem mX12_fits (l : Launch) (D : va_G) (τ : Nat → ClassId) (ad : Nat → Nat) (sA sV : Nat → Nat) (sz : Nat)   (M : Mem) (hM : MR M) (Q : Int → Mem → Prop) (hv : qX12_fits  M Q) : Met l yX12_fits (lw_w yX12_fits cX12_fits 5 (some .int)) (rmk 8 0 0) (kPc D τ sA sV (WM τ ad M) sz [.ref (ad 1)]) (gQi D (EQi (WM τ ad) MR Q) (va_A (WM τ ad M) sz)) 0 0 (va_A (WM τ ad M) sz) := by
  refine k_met (ret := (some .int)) (Qc := gQi D (EQi (WM τ ad) MR Q)) (by decide +kernel) (Nat.le_of_ble_eq_true rfl) ?_
  intro p e s m args below meth c A ls hx hb hml hr hlk hnm hC hLS hA hw hl
  have hC : cx D τ s m args RX12 := hC
  have hl : lv_has ls 5 [(0, .ref (ad 1))] := hl
  unfold qX12_fits at hv
  have L37 : ∀ (X84 : Int → Int → Int → Mem → Prop), (∀ (v1 : Int) (v2 : Int) (v3 : Int) (M : Mem) (H : Heap) (locs : List Loc) (ls : Array Slot), MR M → X84 v1 v2 v3 M → wS D A s.heap (WM τ ad M) H locs → lv_has ls 5 [(0, .ref (ad 1)), (1, .int (iI v1)), (2, .int (iI v2)), (3, .int (iI v3))] → W p l e (rmk 8 0 0) s m args below meth c H locs 0 0 (MQ below (gQi D (EQi (WM τ ad) MR Q) A) args s 0 0 A) (F0 m 84 ls [])) → ∀ (n : Nat) (v1 : Int) (v2 : Int) (v3 : Int) (v4 : Int) (M : Mem) (H : Heap) (locs : List Loc) (ls : Array Slot), MR M → qX12_fits_L37  X84 Q n v1 v2 v3 v4 M → wS D A s.heap (WM τ ad M) H locs → lv_has ls 5 [(0, .ref (ad 1)), (1, .int (iI v1)), (2, .int (iI v2)), (3, .int (iI v3)), (4, .int (iI v4))] → W p l e (rmk 8 0 0) s m args below meth c H locs 0 0 (MQ below (gQi D (EQi (WM τ ad) MR Q) A) args s 0 0 A) (F0 m 37 ls []) := by
    intro X84 hX84 n
    induction n with
    | zero => intro v1 v2 v3 v4 M H locs ls hM hv; rw [qX12_fits_L37] at hv; exact hv.elim
    | succ n ih =>
      intro v1 v2 v3 v4 M H locs ls hM hv hw hl
      rw [qX12_fits_L37] at hv
      refine lv_iload hx hb dX12_fits_37 (lv_at hl 4 rfl) ?_
      refine lv_aload_n hx hb dX12_fits_39 rfl (lv_at hl 0 rfl) ?_
      refine gf_X12_423 hx hb hC hw 1 (gM_1 τ ad M) rfl dX12_fits_40 ?_
      refine r_top (fun x7 e7 => ?_)
      have g7 : iR x7 := by rw [e7]; exact hM.get (by decide) _
      have hv := hv x7 e7 g7
      obtain ⟨c8, hv⟩ := hv
      refine r_icmp_ge (tgt := 84) hx hb dX12_fits_43 (by decide) c8 g7 (fun b9 => ?_) (fun b9 => ?_)
      · have hv := hv.1 b9
        exact hX84 v1 v2 v3 M _ _ _ hM hv hw (lv_sub hl [0, 1, 2, 3] rfl)
      · have hv := hv.2 b9
        refine lv_iload_n hx hb dX12_fits_46 rfl (lv_at hl 3 rfl) ?_
        obtain ⟨c10, hv⟩ := hv
        refine r_if_eq (tgt := 76) hx hb dX12_fits_47 (by decide) c10  (fun b11 => ?_) (fun b11 => ?_)
        · have hv := hv.1 b11
          refine r_iconst hx hb dX12_fits_76 ?_
          refine lv_istore_n (lv' := [(3, .int (iI 0)), (0, .ref (ad 1)), (1, .int (iI v1)), (2, .int (iI v2)), (4, .int (iI v4))]) hx hb dX12_fits_77 rfl hl (by decide) rfl (fun ls hl => ?_)
          refine r_iinc (v := (v4 + 1)) (lv' := [(4, .int (iI (v4 + 1))), (3, .int (iI 0)), (0, .ref (ad 1)), (1, .int (iI v1)), (2, .int (iI v2))]) hx hb dX12_fits_78 hl (k := 4) rfl rfl (by decide) rfl (fun ls hl => ?_)
          refine lv_goto (tgt := 37) hx hb dX12_fits_81 (by decide) ?_
          exact ih v1 v2 0 (v4 + 1) M _ _ _ hM hv hw (lv_sub hl [2, 3, 4, 1, 0] rfl)
        · have hv := hv.2 b11
          refine lv_aload_n hx hb dX12_fits_50 rfl (lv_at hl 0 rfl) ?_
          refine lv_iload_n hx hb dX12_fits_51 rfl (lv_at hl 2 rfl) ?_
          refine lv_aload_n hx hb dX12_fits_52 rfl (lv_at hl 0 rfl) ?_
          refine gf_X12_94 hx hb hC hw 1 (gM_1 τ ad M) rfl dX12_fits_53 ?_
          refine lv_iload hx hb dX12_fits_56 (lv_at hl 4 rfl) ?_
          obtain ⟨c12, hv⟩ := hv
          obtain ⟨c13, hv⟩ := hv
          refine r_iald hx hb hC hw 26 (gI_M aM_26 τ ad M) c12 c13 (by decide) dX12_fits_58 ?_
          refine r_top (fun x14 e14 => ?_)
          have g14 : iR x14 := by rw [e14]; exact hM.get aM_26.pos _
          have hv := hv x14 e14 g14
          refine lv_aload_n hx hb dX12_fits_59 rfl (lv_at hl 0 rfl) ?_
          refine gf_X12_97 hx hb hC hw 1 (gM_1 τ ad M) rfl dX12_fits_60 ?_
          refine lv_iload hx hb dX12_fits_63 (lv_at hl 4 rfl) ?_
          refine r_iald hx hb hC hw 27 (gI_M aM_27 τ ad M) c12 c13 (by decide) dX12_fits_65 ?_
          refine r_top (fun x15 e15 => ?_)
          have g15 : iR x15 := by rw [e15]; exact hM.get aM_27.pos _
          have hv := hv x15 e15 g15
          obtain ⟨c16, hv⟩ := hv
          refine k_cVz (wq_M τ ad) hx hb hml hC hLS hA hw hl.1 (mX12_isSo l D τ ad sA sV _ v2 x14 x15 c16 g14 g15 M hM _ hv) kX12_isSo ml_X12_426 rfl (gM_1 τ ad M) rfl rfl (Nat.le_of_ble_eq_true rfl) (rm_ok (by decide) (by decide)) ⟨Nat.zero_le _, Nat.zero_le _⟩ dX12_fits_66 (fun x17 M17 H locs g17 z17 hM hv hw => ?_)
          have hv := hv g17 z17
          refine r_if_eq (tgt := 76) hx hb dX12_fits_69 (by decide) g17  (fun b18 => ?_) (fun b18 => ?_)
          · have hv := hv.1 b18
            refine r_iconst hx hb dX12_fits_76 ?_
            refine lv_istore_n (lv' := [(3, .int (iI 0)), (0, .ref (ad 1)), (1, .int (iI v1)), (2, .int (iI v2)), (4, .int (iI v4))]) hx hb dX12_fits_77 rfl hl (by decide) rfl (fun ls hl => ?_)
            refine r_iinc (v := (v4 + 1)) (lv' := [(4, .int (iI (v4 + 1))), (3, .int (iI 0)), (0, .ref (ad 1)), (1, .int (iI v1)), (2, .int (iI v2))]) hx hb dX12_fits_78 hl (k := 4) rfl rfl (by decide) rfl (fun ls hl => ?_)
            refine lv_goto (tgt := 37) hx hb dX12_fits_81 (by decide) ?_
            exact ih v1 v2 0 (v4 + 1) M17 _ _ _ hM hv hw (lv_sub hl [2, 3, 4, 1, 0] rfl)
          · have hv := hv.2 b18
            refine r_iconst hx hb dX12_fits_72 ?_
            refine lv_goto (tgt := 77) hx hb dX12_fits_73 (by decide) ?_
            refine lv_istore_n (lv' := [(3, .int (iI 1)), (0, .ref (ad 1)), (1, .int (iI v1)), (2, .int (iI v2)), (4, .int (iI v4))]) hx hb dX12_fits_77 rfl hl (by decide) rfl (fun ls hl => ?_)
            refine r_iinc (v := (v4 + 1)) (lv' := [(4, .int (iI (v4 + 1))), (3, .int (iI 1)), (0, .ref (ad 1)), (1, .int (iI v1)), (2, .int (iI v2))]) hx hb dX12_fits_78 hl (k := 4) rfl rfl (by decide) rfl (fun ls hl => ?_)
            refine lv_goto (tgt := 37) hx hb dX12_fits_81 (by decide) ?_
            exact ih v1 v2 1 (v4 + 1) M17 _ _ _ hM hv hw (lv_sub hl [2, 3, 4, 1, 0] rfl)
  have L24 : ∀ (X104 : Int → Mem → Prop), (∀ (v1 : Int) (M : Mem) (H : Heap) (locs : List Loc) (ls : Array Slot), MR M → X104 v1 M → wS D A s.heap (WM τ ad M) H locs → lv_has ls 5 [(0, .ref (ad 1)), (1, .int (iI v1))] → W p l e (rmk 8 0 0) s m args below meth c H locs 0 0 (MQ below (gQi D (EQi (WM τ ad) MR Q) A) args s 0 0 A) (F0 m 104 ls [])) → ∀ (n : Nat) (v1 : Int) (v2 : Int) (M : Mem) (H : Heap) (locs : List Loc) (ls : Array Slot), MR M → qX12_fits_L24  X104 Q n v1 v2 M → wS D A s.heap (WM τ ad M) H locs → lv_has ls 5 [(0, .ref (ad 1)), (1, .int (iI v1)), (2, .int (iI v2))] → W p l e (rmk 8 0 0) s m args below meth c H locs 0 0 (MQ below (gQi D (EQi (WM τ ad) MR Q) A) args s 0 0 A) (F0 m 24 ls []) := by
    intro X104 hX104 n
    induction n with
    | zero => intro v1 v2 M H locs ls hM hv; rw [qX12_fits_L24] at hv; exact hv.elim
    | succ n ih =>
      intro v1 v2 M H locs ls hM hv hw hl
      rw [qX12_fits_L24] at hv
      refine lv_iload_n hx hb dX12_fits_24 rfl (lv_at hl 2 rfl) ?_
      refine lv_aload_n hx hb dX12_fits_25 rfl (lv_at hl 0 rfl) ?_
      refine gf_X12_122 hx hb hC hw 1 (gM_1 τ ad M) rfl dX12_fits_26 ?_
      refine r_top (fun x4 e4 => ?_)
      have g4 : iR x4 := by rw [e4]; exact hM.get (by decide) _
      have hv := hv x4 e4 g4
      obtain ⟨c5, hv⟩ := hv
      refine r_icmp_ge (tgt := 104) hx hb dX12_fits_29 (by decide) c5 g4 (fun b6 => ?_) (fun b6 => ?_)
      · have hv := hv.1 b6
        exact hX104 v1 M _ _ _ hM hv hw (lv_sub hl [0, 1] rfl)
      · have hv := hv.2 b6
        refine r_iconst hx hb dX12_fits_32 ?_
        refine lv_istore_n (lv' := [(3, .int (iI 1)), (0, .ref (ad 1)), (1, .int (iI v1)), (2, .int (iI v2))]) hx hb dX12_fits_33 rfl hl (by decide) rfl (fun ls hl => ?_)
        refine r_iconst hx hb dX12_fits_34 ?_
        refine lv_istore (lv' := [(4, .int (iI 0)), (3, .int (iI 1)), (0, .ref (ad 1)), (1, .int (iI v1)), (2, .int (iI v2))]) hx hb dX12_fits_35 hl (by decide) rfl (fun ls hl => ?_)
        obtain ⟨n19, hv⟩ := hv
        refine L37 _ ?_ n19 v1 v2 1 0 M _ _ _ hM hv hw (lv_sub hl [2, 3, 4, 1, 0] rfl)
        · intro v1 v2 v3 M H locs ls hM hv hw hl
          refine lv_iload_n hx hb dX12_fits_84 rfl (lv_at hl 1 rfl) ?_
          refine lv_iload_n hx hb dX12_fits_85 rfl (lv_at hl 3 rfl) ?_
          obtain ⟨c20, hv⟩ := hv
          refine r_if_eq (tgt := 95) hx hb dX12_fits_86 (by decide) c20  (fun b21 => ?_) (fun b21 => ?_)
          · have hv := hv.1 b21
            refine r_iconst hx hb dX12_fits_95 ?_
            refine r_iorF hx hb dX12_fits_96 (fun x22 e22 g22 => ?_)
            have hv := hv x22 e22 g22
            refine lv_istore_n (lv' := [(1, .int (iI x22)), (0, .ref (ad 1)), (2, .int (iI v2)), (3, .int (iI v3))]) hx hb dX12_fits_97 rfl hl (by decide) rfl (fun ls hl => ?_)
            refine r_iinc (v := (v2 + 1)) (lv' := [(2, .int (iI (v2 + 1))), (1, .int (iI x22)), (0, .ref (ad 1)), (3, .int (iI v3))]) hx hb dX12_fits_98 hl (k := 2) rfl rfl (by decide) rfl (fun ls hl => ?_)
            refine lv_goto (tgt := 24) hx hb dX12_fits_101 (by decide) ?_
            exact ih x22 (v2 + 1) M _ _ _ hM hv hw (lv_sub hl [2, 1, 0] rfl)
          · have hv := hv.2 b21
            refine r_iconst hx hb dX12_fits_89 ?_
            refine lv_iload_n hx hb dX12_fits_90 rfl (lv_at hl 2 rfl) ?_
            refine r_ishlF hx hb dX12_fits_91 (fun x23 e23 g23 => ?_)
            have hv := hv x23 e23 g23
            refine lv_goto (tgt := 96) hx hb dX12_fits_92 (by decide) ?_
            refine r_iorF hx hb dX12_fits_96 (fun x24 e24 g24 => ?_)
            have hv := hv x24 e24 g24
            refine lv_istore_n (lv' := [(1, .int (iI x24)), (0, .ref (ad 1)), (2, .int (iI v2)), (3, .int (iI v3))]) hx hb dX12_fits_97 rfl hl (by decide) rfl (fun ls hl => ?_)
            refine r_iinc (v := (v2 + 1)) (lv' := [(2, .int (iI (v2 + 1))), (1, .int (iI x24)), (0, .ref (ad 1)), (3, .int (iI v3))]) hx hb dX12_fits_98 hl (k := 2) rfl rfl (by decide) rfl (fun ls hl => ?_)
            refine lv_goto (tgt := 24) hx hb dX12_fits_101 (by decide) ?_
            exact ih x24 (v2 + 1) M _ _ _ hM hv hw (lv_sub hl [2, 1, 0] rfl)
  refine lv_aload_n hx hb dX12_fits_0 rfl (lv_at hl 0 rfl) ?_
  refine r_iconst hx hb dX12_fits_1 ?_
  obtain ⟨M1, e1⟩ : ∃ M1 : Mem, M1 = up2 M 1 0 0 := ⟨_, rfl⟩
  have hv := hv M1 e1
  refine pf_X12_112 (ws' := (WM τ ad M1)) hx hb hC hw 1 (gM_1 τ ad M) (Nat.le_of_ble_eq_true rfl) (by rw [e1]; exact sM_1_0 τ ad M _) dX12_fits_2 (fun H locs hw => ?_)
  have hM : MR M1 := by rw [e1]; exact hM.put (by decide) (by decide)
  refine lv_aload_n hx hb dX12_fits_5 rfl (lv_at hl 0 rfl) ?_
  refine k_cVv (wq_M τ ad) hx hb hml hC hLS hA hw hl.1 (mX12_copies l D τ ad sA sV _   M1 hM _ hv) kX12_copies ml_X12_390 rfl (gM_1 τ ad M1) rfl rfl (Nat.le_of_ble_eq_true rfl) (rm_ok (by decide) (by decide)) ⟨Nat.zero_le _, Nat.zero_le _⟩ dX12_fits_6 (fun M2 H locs hM hv hw => ?_)
  refine lv_aload_n hx hb dX12_fits_9 rfl (lv_at hl 0 rfl) ?_
  refine lv_aload_n hx hb dX12_fits_10 rfl (lv_at hl 0 rfl) ?_
  refine gf_X12_34 hx hb hC hw 1 (gM_1 τ ad M2) rfl dX12_fits_11 ?_
  refine r_sipush hx hb dX12_fits_14 (by decide +kernel) ?_
  refine k_cVv (wq_M τ ad) hx hb hml hC hLS hA hw hl.1 (mX12_goesOn l D τ ad sA sV _ 6 200 aM_6 (by decide) M2 hM _ hv) kX12_goesOn ml_X12_355 rfl (gM_1 τ ad M2) rfl rfl (Nat.le_of_ble_eq_true rfl) (rm_ok (by decide) (by decide)) ⟨Nat.zero_le _, Nat.zero_le _⟩ dX12_fits_17 (fun M3 H locs hM hv hw => ?_)
  refine r_iconst hx hb dX12_fits_20 ?_
  refine lv_istore_n (lv' := [(1, .int (iI 0)), (0, .ref (ad 1))]) hx hb dX12_fits_21 rfl hl (by decide) rfl (fun ls hl => ?_)
  refine r_iconst hx hb dX12_fits_22 ?_
  refine lv_istore_n (lv' := [(2, .int (iI 0)), (1, .int (iI 0)), (0, .ref (ad 1))]) hx hb dX12_fits_23 rfl hl (by decide) rfl (fun ls hl => ?_)
  obtain ⟨n25, hv⟩ := hv
  refine L24 _ ?_ n25 0 0 M3 _ _ _ hM hv hw (lv_sub hl [2, 1, 0] rfl)
  · intro v1 M H locs ls hM hv hw hl
    refine lv_aload_n hx hb dX12_fits_104 rfl (lv_at hl 0 rfl) ?_
    refine r_iconst hx hb dX12_fits_105 ?_
    obtain ⟨M26, e26⟩ : ∃ M26 : Mem, M26 = up2 M 1 1 0 := ⟨_, rfl⟩
    have hv := hv M26 e26
    refine pf_X12_119 (ws' := (WM τ ad M26)) hx hb hC hw 1 (gM_1 τ ad M) (Nat.le_of_ble_eq_true rfl) (by rw [e26]; exact sM_1_1 τ ad M _) dX12_fits_106 (fun H locs hw => ?_)
    have hM : MR M26 := by rw [e26]; exact hM.put (by decide) (by decide)
    refine lv_aload_n hx hb dX12_fits_109 rfl (lv_at hl 0 rfl) ?_
    refine lv_iload_n hx hb dX12_fits_110 rfl (lv_at hl 1 rfl) ?_
    obtain ⟨c27, hv⟩ := hv
    refine k_cSi (wq_M τ ad) hx hb hml hC hLS hA hw hl.1 (mJ6_bitCount_0f7a4M l D τ ad sA sV _ v1 c27 M26 hM _ hv) kJ6_bitCount_0f7a4 ml_X12_279 rfl rfl (Nat.le_of_ble_eq_true rfl) (rm_ok (by decide) (by decide)) ⟨Nat.zero_le _, Nat.zero_le _⟩ dX12_fits_111 (fun x28 M28 H locs g28 hM hv hw => ?_)
    have hv := hv g28
    refine r_i2l hx hb dX12_fits_114 g28 ?_
    refine k_cVv (wq_M τ ad) hx hb hml hC hLS hA hw hl.1 (mX12_enters l D τ ad sA sV _ x28 (iR_lR g28) M28 hM _ hv) kX12_enters ml_X12_358 rfl (gM_1 τ ad M28) rfl rfl (Nat.le_of_ble_eq_true rfl) (rm_ok (by decide) (by decide)) ⟨Nat.zero_le _, Nat.zero_le _⟩ dX12_fits_115 (fun M29 H locs hM hv hw => ?_)
    refine lv_iload_n hx hb dX12_fits_118 rfl (lv_at hl 1 rfl) ?_
    exact k_iret (wq_M τ ad) hx hb hr hlk hw hM c27 hv dX12_fits_119
set_option maxHeartbeats 4000000 in
set_option maxRecDepth 100000 in
theorem bmX12_common (l : Launch) (D : va_G) (τ : Nat → ClassId) (ad : Nat → Nat) (sA sV : Nat → Nat) (d : Nat) (rc : Int → Int → Mem → (Int → Mem → Prop) → Prop) (hrc_X12_common : ∀ (sz : Nat) (p0 : Int) (p2 : Int) (hp0 : lR p0) (hp2 : lR p2) (M : Mem) (hM : MR M) (Q : Int → Mem → Prop), rc  p0 p2 M Q → Met l yX12_common (lw_w yX12_common cX12_common 4 (some .long)) (rmk (1 + d) 0 0) (kPc D τ sA sV (WM τ ad M) sz [.long (lI p0), .long (lI p2)]) (gQl D (EQi (WM τ ad) MR Q) (va_A (WM τ ad M) sz)) 0 0 (va_A (WM τ ad M) sz)) (sz : Nat) (p0 : Int) (p2 : Int) (hp0 : lR p0) (hp2 : lR p2) (M : Mem) (hM : MR M) (Q : Int → Mem → Prop) (hv : bX12_common rc p0 p2 M Q) : Met l yX12_common (lw_w yX12_common cX12_common 4 (some .long)) (rmk (1 + (d + 1)) 0 0) (kPc D τ sA sV (WM τ ad M) sz [.long (lI p0), .long (lI p2)]) (gQl D (EQi (WM τ ad) MR Q) (va_A (WM τ ad M) sz)) 0 0 (va_A (WM τ ad M) sz) := by
  refine k_met (ret := (some .long)) (Qc := gQl D (EQi (WM τ ad) MR Q)) (by decide +kernel) (Nat.le_of_ble_eq_true rfl) ?_
  intro p e s m args below meth c A ls hx hb hml hr hlk hnm hC hLS hA hw hl
  have hC : cx D τ s m args RX12 := hC
  have hl : lv_has ls 4 [(0, .long (lI p0)), (2, .long (lI p2))] := hl
  unfold bX12_common at hv
  refine lv_lload_n hx hb dX12_common_0 rfl (lv_at hl 1 rfl) ?_
  refine r_lconst (z := 0) hx hb dX12_common_1 (by decide +kernel) ?_
  refine r_lcmp hx hb hp2 (by decide) dX12_common_2 (fun x1 g1 e1 => ?_)
  have hv := hv x1 g1 e1
  refine r_if_ne (tgt := 10) hx hb dX12_common_3 (by decide) g1  (fun b2 => ?_) (fun b2 => ?_)
  · have hv := hv.1 b2
    refine lv_lload_n hx hb dX12_common_10 rfl (lv_at hl 1 rfl) ?_
    refine lv_lload_n hx hb dX12_common_11 rfl (lv_at hl 0 rfl) ?_
    refine lv_lload_n hx hb dX12_common_12 rfl (lv_at hl 1 rfl) ?_
    obtain ⟨c3, hv⟩ := hv
    refine r_lremF hx hb dX12_common_13 hp2 c3 (fun x4 e4 g4 => ?_)
    have hv := hv x4 e4 g4
    refine k_cSl (wq_M τ ad) hx hb hml hC hLS hA hw hl.1 (hrc_X12_common _ p2 x4 hp2 g4 M hM _ hv) kX12_common ml_X12_115 rfl rfl (Nat.le_of_ble_eq_true rfl) (rm_ok (by omega) (by decide)) ⟨Nat.zero_le _, Nat.zero_le _⟩ dX12_common_14 (fun x5 M5 H locs g5 hM hv hw => ?_)
    have hv := hv g5
    exact k_lret (wq_M τ ad) hx hb hr hlk hw hM g5 hv dX12_common_17
  · have hv := hv.2 b2
    refine lv_lload_n hx hb dX12_common_6 rfl (lv_at hl 0 rfl) ?_
    refine lv_goto (tgt := 17) hx hb dX12_common_7 (by decide) ?_
    exact k_lret (wq_M τ ad) hx hb hr hlk hw hM hp0 hv dX12_common_17
theorem mX12_common (l : Launch) (D : va_G) (τ : Nat → ClassId) (ad : Nat → Nat) (sA sV : Nat → Nat) (d : Nat) : ∀ (sz : Nat) (p0 : Int) (p2 : Int) (hp0 : lR p0) (hp2 : lR p2) (M : Mem) (hM : MR M) (Q : Int → Mem → Prop) (hv : qX12_common d p0 p2 M Q), Met l yX12_common (lw_w yX12_common cX12_common 4 (some .long)) (rmk (1 + d) 0 0) (kPc D τ sA sV (WM τ ad M) sz [.long (lI p0), .long (lI p2)]) (gQl D (EQi (WM τ ad) MR Q) (va_A (WM τ ad M) sz)) 0 0 (va_A (WM τ ad M) sz) := by
  induction d with
  | zero => intro sz p0 p2 hp0 hp2 M hM Q hv; exact hv.elim
  | succ d ih => intro sz p0 p2 hp0 hp2 M hM Q hv; exact bmX12_common l D τ ad sA sV d (qX12_common d) ih sz p0 p2 hp0 hp2 M hM Q hv
set_option maxHeartbeats 4000000 in
set_option maxRecDepth 100000 in
theorem mX12_rains (l : Launch) (D : va_G) (τ : Nat → ClassId) (ad : Nat → Nat) (sA sV : Nat → Nat) (sz : Nat) (p1 : Int) (p2 : Int) (p3 : Int) (hp1 : iR p1) (hp2 : iR p2) (hp3 : iR p3) (M : Mem) (hM : MR M) (Q : Int → Mem → Prop) (hv : qX12_rains p1 p2 p3 M Q) : Met l yX12_rains (lw_w yX12_rains cX12_rains 12 (some .int)) (rmk 112 0 0) (kPc D τ sA sV (WM τ ad M) sz [.ref (ad 1), .int (iI p1), .int (iI p2), .int (iI p3)]) (gQi D (EQi (WM τ ad) MR Q) (va_A (WM τ ad M) sz)) 0 0 (va_A (WM τ ad M) sz) := by
  refine k_met (ret := (some .int)) (Qc := gQi D (EQi (WM τ ad) MR Q)) (by decide +kernel) (Nat.le_of_ble_eq_true rfl) ?_
  intro p e s m args below meth c A ls hx hb hml hr hlk hnm hC hLS hA hw hl
  have hC : cx D τ s m args RX12 := hC
  have hl : lv_has ls 12 [(0, .ref (ad 1)), (1, .int (iI p1)), (2, .int (iI p2)), (3, .int (iI p3))] := hl
  unfold qX12_rains at hv
  have L52 : ∀ (X72 : Int → Int → Mem → Prop), (∀ (v4 : Int) (v6 : Int) (M : Mem) (H : Heap) (locs : List Loc) (ls : Array Slot), MR M → X72 v4 v6 M → wS D A s.heap (WM τ ad M) H locs → lv_has ls 12 [(0, .ref (ad 1)), (1, .int (iI p1)), (2, .int (iI p2)), (3, .int (iI p3)), (4, .long (lI v4)), (6, .long (lI v6))] → W p l e (rmk 112 0 0) s m args below meth c H locs 0 0 (MQ below (gQi D (EQi (WM τ ad) MR Q) A) args s 0 0 A) (F0 m 72 ls [])) → ∀ (n : Nat) (v4 : Int) (v6 : Int) (v8 : Int) (M : Mem) (H : Heap) (locs : List Loc) (ls : Array Slot), MR M → qX12_rains_L52 p1 p2 p3 X72 Q n v4 v6 v8 M → wS D A s.heap (WM τ ad M) H locs → lv_has ls 12 [(0, .ref (ad 1)), (1, .int (iI p1)), (2, .int (iI p2)), (3, .int (iI p3)), (4, .long (lI v4)), (6, .long (lI v6)), (8, .int (iI v8))] → W p l e (rmk 112 0 0) s m args below meth c H locs 0 0 (MQ below (gQi D (EQi (WM τ ad) MR Q) A) args s 0 0 A) (F0 m 52 ls []) := by
    intro X72 hX72 n
    induction n with
    | zero => intro v4 v6 v8 M H locs ls hM hv; rw [qX12_rains_L52] at hv; exact hv.elim
    | succ n ih =>
      intro v4 v6 v8 M H locs ls hM hv hw hl
      rw [qX12_rains_L52] at hv
      refine lv_iload hx hb dX12_rains_52 (lv_at hl 6 rfl) ?_
      refine lv_iload_n hx hb dX12_rains_54 rfl (lv_at hl 1 rfl) ?_
      obtain ⟨c8, hv⟩ := hv
      refine r_icmp_ge (tgt := 72) hx hb dX12_rains_55 (by decide) c8 hp1 (fun b9 => ?_) (fun b9 => ?_)
      · have hv := hv.1 b9
        exact hX72 v4 v6 M _ _ _ hM hv hw (lv_sub hl [0, 1, 2, 3, 4, 5] rfl)
      · have hv := hv.2 b9
        refine lv_lload hx hb dX12_rains_58 (lv_at hl 5 rfl) ?_
        refine r_ldc2 (z := 10) hx hb hC ct_X12_432 (by decide +kernel) dX12_rains_60 ?_
        refine r_lmulW hx hb dX12_rains_63 (fun x10 e10 g10 => ?_)
        have hv := hv x10 e10 g10
        refine lv_lstore (lv' := [(6, .long (lI x10)), (0, .ref (ad 1)), (1, .int (iI p1)), (2, .int (iI p2)), (3, .int (iI p3)), (4, .long (lI v4)), (8, .int (iI v8))]) hx hb dX12_rains_64 hl (by decide) rfl (fun ls hl => ?_)
        refine r_iinc (v := (v8 + 1)) (lv' := [(8, .int (iI (v8 + 1))), (6, .long (lI x10)), (0, .ref (ad 1)), (1, .int (iI p1)), (2, .int (iI p2)), (3, .int (iI p3)), (4, .long (lI v4))]) hx hb dX12_rains_66 hl (k := 6) rfl rfl (by decide) rfl (fun ls hl => ?_)
        refine lv_goto (tgt := 52) hx hb dX12_rains_69 (by decide) ?_
        exact ih v4 x10 (v8 + 1) M _ _ _ hM hv hw (lv_sub hl [2, 3, 4, 5, 6, 1, 0] rfl)
  have L89 : ∀ (X126 : Int → Int → Int → Int → Mem → Prop), (∀ (v4 : Int) (v6 : Int) (v8 : Int) (v9 : Int) (M : Mem) (H : Heap) (locs : List Loc) (ls : Array Slot), MR M → X126 v4 v6 v8 v9 M → wS D A s.heap (WM τ ad M) H locs → lv_has ls 12 [(0, .ref (ad 1)), (1, .int (iI p1)), (2, .int (iI p2)), (3, .int (iI p3)), (4, .long (lI v4)), (6, .long (lI v6)), (8, .int (iI v8)), (9, .long (lI v9))] → W p l e (rmk 112 0 0) s m args below meth c H locs 0 0 (MQ below (gQi D (EQi (WM τ ad) MR Q) A) args s 0 0 A) (F0 m 126 ls [])) → ∀ (n : Nat) (v4 : Int) (v6 : Int) (v8 : Int) (v9 : Int) (v11 : Int) (M : Mem) (H : Heap) (locs : List Loc) (ls : Array Slot), MR M → qX12_rains_L89 p1 p2 p3 X126 Q n v4 v6 v8 v9 v11 M → wS D A s.heap (WM τ ad M) H locs → lv_has ls 12 [(0, .ref (ad 1)), (1, .int (iI p1)), (2, .int (iI p2)), (3, .int (iI p3)), (4, .long (lI v4)), (6, .long (lI v6)), (8, .int (iI v8)), (9, .long (lI v9)), (11, .int (iI v11))] → W p l e (rmk 112 0 0) s m args below meth c H locs 0 0 (MQ below (gQi D (EQi (WM τ ad) MR Q) A) args s 0 0 A) (F0 m 89 ls []) := by
    intro X126 hX126 n
    induction n with
    | zero => intro v4 v6 v8 v9 v11 M H locs ls hM hv; rw [qX12_rains_L89] at hv; exact hv.elim
    | succ n ih =>
      intro v4 v6 v8 v9 v11 M H locs ls hM hv hw hl
      rw [qX12_rains_L89] at hv
      refine lv_iload hx hb dX12_rains_89 (lv_at hl 8 rfl) ?_
      refine lv_iload_n hx hb dX12_rains_91 rfl (lv_at hl 1 rfl) ?_
      obtain ⟨c15, hv⟩ := hv
      refine r_icmp_ge (tgt := 126) hx hb dX12_rains_92 (by decide) c15 hp1 (fun b16 => ?_) (fun b16 => ?_)
      · have hv := hv.1 b16
        exact hX126 v4 v6 v8 v9 M _ _ _ hM hv hw (lv_sub hl [0, 1, 2, 3, 4, 5, 6, 7] rfl)
      · have hv := hv.2 b16
        refine lv_lload hx hb dX12_rains_95 (lv_at hl 7 rfl) ?_
        refine lv_iload hx hb dX12_rains_97 (lv_at hl 6 rfl) ?_
        refine lv_iload hx hb dX12_rains_99 (lv_at hl 8 rfl) ?_
        obtain ⟨c17, hv⟩ := hv
        refine k_cSz (wq_M τ ad) hx hb hml hC hLS hA hw hl.1 (mX12_has l D τ ad sA sV _ v8 v11 c17 c15 M hM _ hv) kX12_has ml_X12_411 rfl rfl (Nat.le_of_ble_eq_true rfl) (rm_ok (by decide) (by decide)) ⟨Nat.zero_le _, Nat.zero_le _⟩ dX12_rains_101 (fun x18 M18 H locs g18 z18 hM hv hw => ?_)
        have hv := hv g18 z18
        refine r_if_eq (tgt := 112) hx hb dX12_rains_104 (by decide) g18  (fun b19 => ?_) (fun b19 => ?_)
        · have hv := hv.1 b19
          refine r_bipush hx hb dX12_rains_112 (by decide +kernel) ?_
          refine lv_iload_n hx hb dX12_rains_114 rfl (lv_at hl 3 rfl) ?_
          refine r_isubW hx hb dX12_rains_115 (fun x20 e20 g20 => ?_)
          have hv := hv x20 e20 g20
          refine r_i2l hx hb dX12_rains_116 g20 ?_
          refine r_lmulW hx hb dX12_rains_117 (fun x21 e21 g21 => ?_)
          have hv := hv x21 e21 g21
          refine lv_lstore (lv' := [(9, .long (lI x21)), (0, .ref (ad 1)), (1, .int (iI p1)), (2, .int (iI p2)), (3, .int (iI p3)), (4, .long (lI v4)), (6, .long (lI v6)), (8, .int (iI v8)), (11, .int (iI v11))]) hx hb dX12_rains_118 hl (by decide) rfl (fun ls hl => ?_)
          refine r_iinc (v := (v11 + 1)) (lv' := [(11, .int (iI (v11 + 1))), (9, .long (lI x21)), (0, .ref (ad 1)), (1, .int (iI p1)), (2, .int (iI p2)), (3, .int (iI p3)), (4, .long (lI v4)), (6, .long (lI v6)), (8, .int (iI v8))]) hx hb dX12_rains_120 hl (k := 8) rfl rfl (by decide) rfl (fun ls hl => ?_)
          refine lv_goto (tgt := 89) hx hb dX12_rains_123 (by decide) ?_
          exact ih v4 v6 v8 x21 (v11 + 1) M18 _ _ _ hM hv hw (lv_sub hl [2, 3, 4, 5, 6, 7, 8, 1, 0] rfl)
        · have hv := hv.2 b19
          refine lv_iload_n hx hb dX12_rains_107 rfl (lv_at hl 3 rfl) ?_
          refine r_i2l hx hb dX12_rains_108 hp3 ?_
          refine lv_goto (tgt := 117) hx hb dX12_rains_109 (by decide) ?_
          refine r_lmulW hx hb dX12_rains_117 (fun x22 e22 g22 => ?_)
          have hv := hv x22 e22 g22
          refine lv_lstore (lv' := [(9, .long (lI x22)), (0, .ref (ad 1)), (1, .int (iI p1)), (2, .int (iI p2)), (3, .int (iI p3)), (4, .long (lI v4)), (6, .long (lI v6)), (8, .int (iI v8)), (11, .int (iI v11))]) hx hb dX12_rains_118 hl (by decide) rfl (fun ls hl => ?_)
          refine r_iinc (v := (v11 + 1)) (lv' := [(11, .int (iI (v11 + 1))), (9, .long (lI x22)), (0, .ref (ad 1)), (1, .int (iI p1)), (2, .int (iI p2)), (3, .int (iI p3)), (4, .long (lI v4)), (6, .long (lI v6)), (8, .int (iI v8))]) hx hb dX12_rains_120 hl (k := 8) rfl rfl (by decide) rfl (fun ls hl => ?_)
          refine lv_goto (tgt := 89) hx hb dX12_rains_123 (by decide) ?_
          exact ih v4 v6 v8 x22 (v11 + 1) M18 _ _ _ hM hv hw (lv_sub hl [2, 3, 4, 5, 6, 7, 8, 1, 0] rfl)
  have L75 : ∀ (X161 : Int → Int → Mem → Prop), (∀ (v4 : Int) (v6 : Int) (M : Mem) (H : Heap) (locs : List Loc) (ls : Array Slot), MR M → X161 v4 v6 M → wS D A s.heap (WM τ ad M) H locs → lv_has ls 12 [(0, .ref (ad 1)), (4, .long (lI v4)), (6, .long (lI v6))] → W p l e (rmk 112 0 0) s m args below meth c H locs 0 0 (MQ below (gQi D (EQi (WM τ ad) MR Q) A) args s 0 0 A) (F0 m 161 ls [])) → ∀ (n : Nat) (v4 : Int) (v6 : Int) (v8 : Int) (M : Mem) (H : Heap) (locs : List Loc) (ls : Array Slot), MR M → qX12_rains_L75 p1 p2 p3 X161 Q n v4 v6 v8 M → wS D A s.heap (WM τ ad M) H locs → lv_has ls 12 [(0, .ref (ad 1)), (1, .int (iI p1)), (2, .int (iI p2)), (3, .int (iI p3)), (4, .long (lI v4)), (6, .long (lI v6)), (8, .int (iI v8))] → W p l e (rmk 112 0 0) s m args below meth c H locs 0 0 (MQ below (gQi D (EQi (WM τ ad) MR Q) A) args s 0 0 A) (F0 m 75 ls []) := by
    intro X161 hX161 n
    induction n with
    | zero => intro v4 v6 v8 M H locs ls hM hv; rw [qX12_rains_L75] at hv; exact hv.elim
    | succ n ih =>
      intro v4 v6 v8 M H locs ls hM hv hw hl
      rw [qX12_rains_L75] at hv
      refine lv_iload hx hb dX12_rains_75 (lv_at hl 6 rfl) ?_
      refine r_iconst hx hb dX12_rains_77 ?_
      refine lv_iload_n hx hb dX12_rains_78 rfl (lv_at hl 1 rfl) ?_
      refine r_ishlF hx hb dX12_rains_79 (fun x12 e12 g12 => ?_)
      have hv := hv x12 e12 g12
      obtain ⟨c13, hv⟩ := hv
      refine r_icmp_ge (tgt := 161) hx hb dX12_rains_80 (by decide) c13 g12 (fun b14 => ?_) (fun b14 => ?_)
      · have hv := hv.1 b14
        exact hX161 v4 v6 M _ _ _ hM hv hw (lv_sub hl [0, 4, 5] rfl)
      · have hv := hv.2 b14
        refine r_lconst (z := 1) hx hb dX12_rains_83 (by decide +kernel) ?_
        refine lv_lstore (lv' := [(9, .long (lI 1)), (0, .ref (ad 1)), (1, .int (iI p1)), (2, .int (iI p2)), (3, .int (iI p3)), (4, .long (lI v4)), (6, .long (lI v6)), (8, .int (iI v8))]) hx hb dX12_rains_84 hl (by decide) rfl (fun ls hl => ?_)
        refine r_iconst hx hb dX12_rains_86 ?_
        refine lv_istore (lv' := [(11, .int (iI 0)), (9, .long (lI 1)), (0, .ref (ad 1)), (1, .int (iI p1)), (2, .int (iI p2)), (3, .int (iI p3)), (4, .long (lI v4)), (6, .long (lI v6)), (8, .int (iI v8))]) hx hb dX12_rains_87 hl (by decide) rfl (fun ls hl => ?_)
        obtain ⟨n23, hv⟩ := hv
        refine L89 _ ?_ n23 v4 v6 v8 1 0 M _ _ _ hM hv hw (lv_sub hl [2, 3, 4, 5, 6, 7, 8, 1, 0] rfl)
        · intro v4 v6 v8 v9 M H locs ls hM hv hw hl
          refine lv_lload hx hb dX12_rains_126 (lv_at hl 4 rfl) ?_
          refine lv_iload hx hb dX12_rains_128 (lv_at hl 6 rfl) ?_
          refine r_iconst hx hb dX12_rains_130 ?_
          obtain ⟨c24, hv⟩ := hv
          refine k_cSz (wq_M τ ad) hx hb hml hC hLS hA hw hl.1 (mX12_has l D τ ad sA sV _ v8 0 c24 (by decide) M hM _ hv) kX12_has ml_X12_411 rfl rfl (Nat.le_of_ble_eq_true rfl) (rm_ok (by decide) (by decide)) ⟨Nat.zero_le _, Nat.zero_le _⟩ dX12_rains_131 (fun x25 M25 H locs g25 z25 hM hv hw => ?_)
          have hv := hv g25 z25
          refine r_if_eq (tgt := 151) hx hb dX12_rains_134 (by decide) g25  (fun b26 => ?_) (fun b26 => ?_)
          · have hv := hv.1 b26
            refine r_lconst (z := 0) hx hb dX12_rains_151 (by decide +kernel) ?_
            refine r_laddW hx hb dX12_rains_152 (fun x27 e27 g27 => ?_)
            have hv := hv x27 e27 g27
            refine lv_lstore (lv' := [(4, .long (lI x27)), (0, .ref (ad 1)), (1, .int (iI p1)), (2, .int (iI p2)), (3, .int (iI p3)), (6, .long (lI v6)), (8, .int (iI v8)), (9, .long (lI v9))]) hx hb dX12_rains_153 hl (by decide) rfl (fun ls hl => ?_)
            refine r_iinc (v := (v8 + 1)) (lv' := [(8, .int (iI (v8 + 1))), (4, .long (lI x27)), (0, .ref (ad 1)), (1, .int (iI p1)), (2, .int (iI p2)), (3, .int (iI p3)), (6, .long (lI v6)), (9, .long (lI v9))]) hx hb dX12_rains_155 hl (k := 6) rfl rfl (by decide) rfl (fun ls hl => ?_)
            refine lv_goto (tgt := 75) hx hb dX12_rains_158 (by decide) ?_
            exact ih x27 v6 (v8 + 1) M25 _ _ _ hM hv hw (lv_sub hl [2, 3, 4, 5, 1, 6, 0] rfl)
          · have hv := hv.2 b26
            refine lv_iload hx hb dX12_rains_137 (lv_at hl 6 rfl) ?_
            refine k_cSi (wq_M τ ad) hx hb hml hC hLS hA hw hl.1 (mJ6_bitCount_0f7a4M l D τ ad sA sV _ v8 c24 M25 hM _ hv) kJ6_bitCount_0f7a4 ml_X12_279 rfl rfl (Nat.le_of_ble_eq_true rfl) (rm_ok (by decide) (by decide)) ⟨Nat.zero_le _, Nat.zero_le _⟩ dX12_rains_139 (fun x28 M28 H locs g28 hM hv hw => ?_)
            have hv := hv g28
            refine lv_iload_n hx hb dX12_rains_142 rfl (lv_at hl 2 rfl) ?_
            refine r_icmp_lt (tgt := 151) hx hb dX12_rains_143 (by decide) g28 hp2 (fun b29 => ?_) (fun b29 => ?_)
            · have hv := hv.1 b29
              refine r_lconst (z := 0) hx hb dX12_rains_151 (by decide +kernel) ?_
              refine r_laddW hx hb dX12_rains_152 (fun x30 e30 g30 => ?_)
              have hv := hv x30 e30 g30
              refine lv_lstore (lv' := [(4, .long (lI x30)), (0, .ref (ad 1)), (1, .int (iI p1)), (2, .int (iI p2)), (3, .int (iI p3)), (6, .long (lI v6)), (8, .int (iI v8)), (9, .long (lI v9))]) hx hb dX12_rains_153 hl (by decide) rfl (fun ls hl => ?_)
              refine r_iinc (v := (v8 + 1)) (lv' := [(8, .int (iI (v8 + 1))), (4, .long (lI x30)), (0, .ref (ad 1)), (1, .int (iI p1)), (2, .int (iI p2)), (3, .int (iI p3)), (6, .long (lI v6)), (9, .long (lI v9))]) hx hb dX12_rains_155 hl (k := 6) rfl rfl (by decide) rfl (fun ls hl => ?_)
              refine lv_goto (tgt := 75) hx hb dX12_rains_158 (by decide) ?_
              exact ih x30 v6 (v8 + 1) M28 _ _ _ hM hv hw (lv_sub hl [2, 3, 4, 5, 1, 6, 0] rfl)
            · have hv := hv.2 b29
              refine lv_lload hx hb dX12_rains_146 (lv_at hl 7 rfl) ?_
              refine lv_goto (tgt := 152) hx hb dX12_rains_148 (by decide) ?_
              refine r_laddW hx hb dX12_rains_152 (fun x31 e31 g31 => ?_)
              have hv := hv x31 e31 g31
              refine lv_lstore (lv' := [(4, .long (lI x31)), (0, .ref (ad 1)), (1, .int (iI p1)), (2, .int (iI p2)), (3, .int (iI p3)), (6, .long (lI v6)), (8, .int (iI v8)), (9, .long (lI v9))]) hx hb dX12_rains_153 hl (by decide) rfl (fun ls hl => ?_)
              refine r_iinc (v := (v8 + 1)) (lv' := [(8, .int (iI (v8 + 1))), (4, .long (lI x31)), (0, .ref (ad 1)), (1, .int (iI p1)), (2, .int (iI p2)), (3, .int (iI p3)), (6, .long (lI v6)), (9, .long (lI v9))]) hx hb dX12_rains_155 hl (k := 6) rfl rfl (by decide) rfl (fun ls hl => ?_)
              refine lv_goto (tgt := 75) hx hb dX12_rains_158 (by decide) ?_
              exact ih x31 v6 (v8 + 1) M28 _ _ _ hM hv hw (lv_sub hl [2, 3, 4, 5, 1, 6, 0] rfl)
  refine lv_aload_n hx hb dX12_rains_0 rfl (lv_at hl 0 rfl) ?_
  refine r_iconst hx hb dX12_rains_1 ?_
  obtain ⟨M1, e1⟩ : ∃ M1 : Mem, M1 = up2 M 1 0 0 := ⟨_, rfl⟩
  have hv := hv M1 e1
  refine pf_X12_112 (ws' := (WM τ ad M1)) hx hb hC hw 1 (gM_1 τ ad M) (Nat.le_of_ble_eq_true rfl) (by rw [e1]; exact sM_1_0 τ ad M _) dX12_rains_2 (fun H locs hw => ?_)
  have hM : MR M1 := by rw [e1]; exact hM.put (by decide) (by decide)
  refine lv_iload_n hx hb dX12_rains_5 rfl (lv_at hl 1 rfl) ?_
  refine r_i2l hx hb dX12_rains_6 hp1 ?_
  refine r_lconst (z := 1) hx hb dX12_rains_7 (by decide +kernel) ?_
  refine r_ldc2 (z := 12) hx hb hC ct_X12_430 (by decide +kernel) dX12_rains_8 ?_
  refine k_cSz (wq_M τ ad) hx hb hml hC hLS hA hw hl.1 (mX12_in l D τ ad sA sV _ p1 1 12 (iR_lR hp1) (by decide) (by decide) M1 hM _ hv) kX12_in ml_X12_125 rfl rfl (Nat.le_of_ble_eq_true rfl) (rm_ok (by decide) (by decide)) ⟨Nat.zero_le _, Nat.zero_le _⟩ dX12_rains_11 (fun x2 M2 H locs g2 z2 hM hv hw => ?_)
  have hv := hv g2 z2
  refine r_if_eq (tgt := 41) hx hb dX12_rains_14 (by decide) g2  (fun b3 => ?_) (fun b3 => ?_)
  · have hv := hv.1 b3
    refine r_iconst hx hb dX12_rains_41 ?_
    exact k_iret (wq_M τ ad) hx hb hr hlk hw hM (by decide) hv dX12_rains_42
  · have hv := hv.2 b3
    refine lv_iload_n hx hb dX12_rains_17 rfl (lv_at hl 2 rfl) ?_
    refine r_i2l hx hb dX12_rains_18 hp2 ?_
    refine r_lconst (z := 0) hx hb dX12_rains_19 (by decide +kernel) ?_
    refine r_ldc2 (z := 12) hx hb hC ct_X12_430 (by decide +kernel) dX12_rains_20 ?_
    refine k_cSz (wq_M τ ad) hx hb hml hC hLS hA hw hl.1 (mX12_in l D τ ad sA sV _ p2 0 12 (iR_lR hp2) (by decide) (by decide) M2 hM _ hv) kX12_in ml_X12_125 rfl rfl (Nat.le_of_ble_eq_true rfl) (rm_ok (by decide) (by decide)) ⟨Nat.zero_le _, Nat.zero_le _⟩ dX12_rains_23 (fun x4 M4 H locs g4 z4 hM hv hw => ?_)
    have hv := hv g4 z4
    refine r_if_eq (tgt := 41) hx hb dX12_rains_26 (by decide) g4  (fun b5 => ?_) (fun b5 => ?_)
    · have hv := hv.1 b5
      refine r_iconst hx hb dX12_rains_41 ?_
      exact k_iret (wq_M τ ad) hx hb hr hlk hw hM (by decide) hv dX12_rains_42
    · have hv := hv.2 b5
      refine lv_iload_n hx hb dX12_rains_29 rfl (lv_at hl 3 rfl) ?_
      refine r_i2l hx hb dX12_rains_30 hp3 ?_
      refine r_lconst (z := 0) hx hb dX12_rains_31 (by decide +kernel) ?_
      refine r_ldc2 (z := 10) hx hb hC ct_X12_432 (by decide +kernel) dX12_rains_32 ?_
      refine k_cSz (wq_M τ ad) hx hb hml hC hLS hA hw hl.1 (mX12_in l D τ ad sA sV _ p3 0 10 (iR_lR hp3) (by decide) (by decide) M4 hM _ hv) kX12_in ml_X12_125 rfl rfl (Nat.le_of_ble_eq_true rfl) (rm_ok (by decide) (by decide)) ⟨Nat.zero_le _, Nat.zero_le _⟩ dX12_rains_35 (fun x6 M6 H locs g6 z6 hM hv hw => ?_)
      have hv := hv g6 z6
      refine r_if_ne (tgt := 43) hx hb dX12_rains_38 (by decide) g6  (fun b7 => ?_) (fun b7 => ?_)
      · have hv := hv.1 b7
        refine r_lconst (z := 0) hx hb dX12_rains_43 (by decide +kernel) ?_
        refine lv_lstore (lv' := [(4, .long (lI 0)), (0, .ref (ad 1)), (1, .int (iI p1)), (2, .int (iI p2)), (3, .int (iI p3))]) hx hb dX12_rains_44 hl (by decide) rfl (fun ls hl => ?_)
        refine r_lconst (z := 1) hx hb dX12_rains_46 (by decide +kernel) ?_
        refine lv_lstore (lv' := [(6, .long (lI 1)), (4, .long (lI 0)), (0, .ref (ad 1)), (1, .int (iI p1)), (2, .int (iI p2)), (3, .int (iI p3))]) hx hb dX12_rains_47 hl (by decide) rfl (fun ls hl => ?_)
        refine r_iconst hx hb dX12_rains_49 ?_
        refine lv_istore (lv' := [(8, .int (iI 0)), (6, .long (lI 1)), (4, .long (lI 0)), (0, .ref (ad 1)), (1, .int (iI p1)), (2, .int (iI p2)), (3, .int (iI p3))]) hx hb dX12_rains_50 hl (by decide) rfl (fun ls hl => ?_)
        obtain ⟨n11, hv⟩ := hv
        refine L52 _ ?_ n11 0 1 0 M6 _ _ _ hM hv hw (lv_sub hl [3, 4, 5, 6, 2, 1, 0] rfl)
        · intro v4 v6 M H locs ls hM hv hw hl
          refine r_iconst hx hb dX12_rains_72 ?_
          refine lv_istore (lv' := [(8, .int (iI 0)), (0, .ref (ad 1)), (1, .int (iI p1)), (2, .int (iI p2)), (3, .int (iI p3)), (4, .long (lI v4)), (6, .long (lI v6))]) hx hb dX12_rains_73 hl (by decide) rfl (fun ls hl => ?_)
          obtain ⟨n32, hv⟩ := hv
          refine L75 _ ?_ n32 v4 v6 0 M _ _ _ hM hv hw (lv_sub hl [1, 2, 3, 4, 5, 6, 0] rfl)
          · intro v4 v6 M H locs ls hM hv hw hl
            refine lv_lload hx hb dX12_rains_161 (lv_at hl 1 rfl) ?_
            refine lv_lload hx hb dX12_rains_163 (lv_at hl 2 rfl) ?_
            obtain ⟨c33, hv⟩ := hv
            obtain ⟨c34, hv⟩ := hv
            obtain ⟨d36, hd36, hv⟩ := hv
            refine k_cSl (wq_M τ ad) hx hb hml hC hLS hA hw hl.1 (mX12_common l D τ ad sA sV d36 _ v4 v6 c33 c34 M hM _ hv) kX12_common ml_X12_115 rfl rfl (Nat.le_of_ble_eq_true rfl) (rm_ok (by omega) (by decide)) ⟨Nat.zero_le _, Nat.zero_le _⟩ dX12_rains_165 (fun x35 M35 H locs g35 hM hv hw => ?_)
            have hv := hv g35
            refine lv_lstore (lv' := [(8, .long (lI x35)), (0, .ref (ad 1)), (4, .long (lI v4)), (6, .long (lI v6))]) hx hb dX12_rains_168 hl (by decide) rfl (fun ls hl => ?_)
            refine lv_aload_n hx hb dX12_rains_170 rfl (lv_at hl 1 rfl) ?_
            refine r_iconst hx hb dX12_rains_171 ?_
            obtain ⟨M37, e37⟩ : ∃ M37 : Mem, M37 = up2 M35 1 1 0 := ⟨_, rfl⟩
            have hv := hv M37 e37
            refine pf_X12_119 (ws' := (WM τ ad M37)) hx hb hC hw 1 (gM_1 τ ad M35) (Nat.le_of_ble_eq_true rfl) (by rw [e37]; exact sM_1_1 τ ad M35 _) dX12_rains_172 (fun H locs hw => ?_)
            have hM : MR M37 := by rw [e37]; exact hM.put (by decide) (by decide)
            refine lv_aload_n hx hb dX12_rains_175 rfl (lv_at hl 1 rfl) ?_
            refine lv_lload hx hb dX12_rains_176 (lv_at hl 2 rfl) ?_
            refine lv_lload hx hb dX12_rains_178 (lv_at hl 0 rfl) ?_
            obtain ⟨c38, hv⟩ := hv
            refine r_ldivF hx hb dX12_rains_180 g35 c38 (fun x39 e39 g39 => ?_)
            have hv := hv x39 e39 g39
            refine k_cVv (wq_M τ ad) hx hb hml hC hLS hA hw hl.1 (mX12_enters l D τ ad sA sV _ x39 g39 M37 hM _ hv) kX12_enters ml_X12_358 rfl (gM_1 τ ad M37) rfl rfl (Nat.le_of_ble_eq_true rfl) (rm_ok (by decide) (by decide)) ⟨Nat.zero_le _, Nat.zero_le _⟩ dX12_rains_181 (fun M40 H locs hM hv hw => ?_)
            refine lv_aload_n hx hb dX12_rains_184 rfl (lv_at hl 1 rfl) ?_
            refine lv_lload hx hb dX12_rains_185 (lv_at hl 3 rfl) ?_
            refine lv_lload hx hb dX12_rains_187 (lv_at hl 0 rfl) ?_
            obtain ⟨c41, hv⟩ := hv
            refine r_ldivF hx hb dX12_rains_189 g35 c41 (fun x42 e42 g42 => ?_)
            have hv := hv x42 e42 g42
            refine k_cVv (wq_M τ ad) hx hb hml hC hLS hA hw hl.1 (mX12_enters l D τ ad sA sV _ x42 g42 M40 hM _ hv) kX12_enters ml_X12_358 rfl (gM_1 τ ad M40) rfl rfl (Nat.le_of_ble_eq_true rfl) (rm_ok (by decide) (by decide)) ⟨Nat.zero_le _, Nat.zero_le _⟩ dX12_rains_190 (fun M43 H locs hM hv hw => ?_)
            refine r_iconst hx hb dX12_rains_193 ?_
            exact k_iret (wq_M τ ad) hx hb hr hlk hw hM (by decide) hv dX12_rains_194
      · have hv := hv.2 b7
        refine r_iconst hx hb dX12_rains_41 ?_
        exact k_iret (wq_M τ ad) hx hb hr hlk hw hM (by decide) hv dX12_rains_42
set_option maxHeartbeats 4000000 in
set_option maxRecDepth 100000 in
theorem mX12_law (l : Launch) (D : va_G) (τ : Nat → ClassId) (ad : Nat → Nat) (sA sV : Nat → Nat) (sz : Nat)   (M : Mem) (hM : MR M) (Q : Int → Mem → Prop) (hv : qX12_law  M Q) : Met l yX12_law (lw_w yX12_law cX12_law 5 (some .int)) (rmk 148 0 0) (kPc D τ sA sV (WM τ ad M) sz [.ref (ad 1)]) (gQi D (EQi (WM τ ad) MR Q) (va_A (WM τ ad M) sz)) 0 0 (va_A (WM τ ad M) sz) := by
  refine k_met (ret := (some .int)) (Qc := gQi D (EQi (WM τ ad) MR Q)) (by decide +kernel) (Nat.le_of_ble_eq_true rfl) ?_
  intro p e s m args below meth c A ls hx hb hml hr hlk hnm hC hLS hA hw hl
  have hC : cx D τ s m args RX12 := hC
  have hl : lv_has ls 5 [(0, .ref (ad 1))] := hl
  unfold qX12_law at hv
  have L42 : ∀ (X71 : Int → Int → Mem → Prop), (∀ (v2 : Int) (v3 : Int) (M : Mem) (H : Heap) (locs : List Loc) (ls : Array Slot), MR M → X71 v2 v3 M → wS D A s.heap (WM τ ad M) H locs → lv_has ls 5 [(0, .ref (ad 1)), (2, .int (iI v2)), (3, .int (iI v3))] → W p l e (rmk 148 0 0) s m args below meth c H locs 0 0 (MQ below (gQi D (EQi (WM τ ad) MR Q) A) args s 0 0 A) (F0 m 71 ls [])) → ∀ (n : Nat) (v2 : Int) (v3 : Int) (v4 : Int) (M : Mem) (H : Heap) (locs : List Loc) (ls : Array Slot), MR M → qX12_law_L42  X71 Q n v2 v3 v4 M → wS D A s.heap (WM τ ad M) H locs → lv_has ls 5 [(0, .ref (ad 1)), (2, .int (iI v2)), (3, .int (iI v3)), (4, .int (iI v4))] → W p l e (rmk 148 0 0) s m args below meth c H locs 0 0 (MQ below (gQi D (EQi (WM τ ad) MR Q) A) args s 0 0 A) (F0 m 42 ls []) := by
    intro X71 hX71 n
    induction n with
    | zero => intro v2 v3 v4 M H locs ls hM hv; rw [qX12_law_L42] at hv; exact hv.elim
    | succ n ih =>
      intro v2 v3 v4 M H locs ls hM hv hw hl
      rw [qX12_law_L42] at hv
      refine lv_iload hx hb dX12_law_42 (lv_at hl 3 rfl) ?_
      refine lv_aload_n hx hb dX12_law_44 rfl (lv_at hl 0 rfl) ?_
      refine gf_X12_252 hx hb hC hw 1 (gM_1 τ ad M) rfl dX12_law_45 ?_
      refine r_top (fun x8 e8 => ?_)
      have g8 : iR x8 := by rw [e8]; exact hM.get (by decide) _
      have hv := hv x8 e8 g8
      obtain ⟨c9, hv⟩ := hv
      refine r_icmp_ge (tgt := 71) hx hb dX12_law_48 (by decide) c9 g8 (fun b10 => ?_) (fun b10 => ?_)
      · have hv := hv.1 b10
        exact hX71 v2 v3 M _ _ _ hM hv hw (lv_sub hl [0, 1, 2] rfl)
      · have hv := hv.2 b10
        refine lv_aload_n hx hb dX12_law_51 rfl (lv_at hl 0 rfl) ?_
        refine gf_X12_100 hx hb hC hw 1 (gM_1 τ ad M) rfl dX12_law_52 ?_
        refine lv_iload hx hb dX12_law_55 (lv_at hl 3 rfl) ?_
        refine lv_aload_n hx hb dX12_law_57 rfl (lv_at hl 0 rfl) ?_
        refine gf_X12_49 hx hb hC hw 1 (gM_1 τ ad M) rfl dX12_law_58 ?_
        refine lv_iload hx hb dX12_law_61 (lv_at hl 3 rfl) ?_
        obtain ⟨c11, hv⟩ := hv
        obtain ⟨c12, hv⟩ := hv
        refine r_iald hx hb hC hw 11 (gI_M aM_11 τ ad M) c11 c12 (by decide) dX12_law_63 ?_
        refine r_top (fun x13 e13 => ?_)
        have g13 : iR x13 := by rw [e13]; exact hM.get aM_11.pos _
        have hv := hv x13 e13 g13
        obtain ⟨M14, e14⟩ : ∃ M14 : Mem, M14 = up2 M 28 v4 x13 := ⟨_, rfl⟩
        have hv := hv M14 e14
        refine r_iast (ws' := (WM τ ad M14)) hx hb hC hw 28 (gI_M aM_28 τ ad M) c11 c12 (by decide) (by rw [e14]; exact sI_M aM_28 τ ad M _ _) dX12_law_64 (fun H locs hw => ?_)
        have hM : MR M14 := by rw [e14]; exact hM.put aM_28.pos g13
        refine r_iinc (v := (v4 + 1)) (lv' := [(4, .int (iI (v4 + 1))), (0, .ref (ad 1)), (2, .int (iI v2)), (3, .int (iI v3))]) hx hb dX12_law_65 hl (k := 3) rfl rfl (by decide) rfl (fun ls hl => ?_)
        refine lv_goto (tgt := 42) hx hb dX12_law_68 (by decide) ?_
        exact ih v2 v3 (v4 + 1) M14 _ _ _ hM hv hw (lv_sub hl [1, 2, 3, 0] rfl)
  refine lv_aload_n hx hb dX12_law_0 rfl (lv_at hl 0 rfl) ?_
  refine r_iconst hx hb dX12_law_1 ?_
  obtain ⟨M1, e1⟩ : ∃ M1 : Mem, M1 = up2 M 1 0 0 := ⟨_, rfl⟩
  have hv := hv M1 e1
  refine pf_X12_112 (ws' := (WM τ ad M1)) hx hb hC hw 1 (gM_1 τ ad M) (Nat.le_of_ble_eq_true rfl) (by rw [e1]; exact sM_1_0 τ ad M _) dX12_law_2 (fun H locs hw => ?_)
  have hM : MR M1 := by rw [e1]; exact hM.put (by decide) (by decide)
  refine lv_aload_n hx hb dX12_law_5 rfl (lv_at hl 0 rfl) ?_
  refine k_cVi (wq_M τ ad) hx hb hml hC hLS hA hw hl.1 (mX12_readsRule l D τ ad sA sV _   M1 hM _ hv) kX12_readsRule ml_X12_255 rfl (gM_1 τ ad M1) rfl rfl (Nat.le_of_ble_eq_true rfl) (rm_ok (by decide) (by decide)) ⟨Nat.zero_le _, Nat.zero_le _⟩ dX12_law_6 (fun x2 M2 H locs g2 hM hv hw => ?_)
  have hv := hv g2
  refine lv_istore_n (lv' := [(1, .int (iI x2)), (0, .ref (ad 1))]) hx hb dX12_law_9 rfl hl (by decide) rfl (fun ls hl => ?_)
  refine lv_iload_n hx hb dX12_law_10 rfl (lv_at hl 0 rfl) ?_
  refine r_if_ge (tgt := 22) hx hb dX12_law_11 (by decide) g2  (fun b3 => ?_) (fun b3 => ?_)
  · have hv := hv.1 b3
    refine lv_aload_n hx hb dX12_law_22 rfl (lv_at hl 1 rfl) ?_
    refine k_cVv (wq_M τ ad) hx hb hml hC hLS hA hw hl.1 (mX12_copies l D τ ad sA sV _   M2 hM _ hv) kX12_copies ml_X12_390 rfl (gM_1 τ ad M2) rfl rfl (Nat.le_of_ble_eq_true rfl) (rm_ok (by decide) (by decide)) ⟨Nat.zero_le _, Nat.zero_le _⟩ dX12_law_23 (fun M4 H locs hM hv hw => ?_)
    refine lv_aload_n hx hb dX12_law_26 rfl (lv_at hl 1 rfl) ?_
    refine k_cVi (wq_M τ ad) hx hb hml hC hLS hA hw hl.1 (mX12_rightThen l D τ ad sA sV _   M4 hM _ hv) kX12_rightThen ml_X12_401 rfl (gM_1 τ ad M4) rfl rfl (Nat.le_of_ble_eq_true rfl) (rm_ok (by decide) (by decide)) ⟨Nat.zero_le _, Nat.zero_le _⟩ dX12_law_27 (fun x5 M5 H locs g5 hM hv hw => ?_)
    have hv := hv g5
    refine k_cSi (wq_M τ ad) hx hb hml hC hLS hA hw hl.1 (mJ6_bitCount_0f7a4M l D τ ad sA sV _ x5 g5 M5 hM _ hv) kJ6_bitCount_0f7a4 ml_X12_279 rfl rfl (Nat.le_of_ble_eq_true rfl) (rm_ok (by decide) (by decide)) ⟨Nat.zero_le _, Nat.zero_le _⟩ dX12_law_30 (fun x6 M6 H locs g6 hM hv hw => ?_)
    have hv := hv g6
    refine lv_istore_n (lv' := [(2, .int (iI x6)), (1, .int (iI x2)), (0, .ref (ad 1))]) hx hb dX12_law_33 rfl hl (by decide) rfl (fun ls hl => ?_)
    refine lv_aload_n hx hb dX12_law_34 rfl (lv_at hl 2 rfl) ?_
    refine gf_X12_252 hx hb hC hw 1 (gM_1 τ ad M6) rfl dX12_law_35 ?_
    refine r_top (fun x7 e7 => ?_)
    have g7 : iR x7 := by rw [e7]; exact hM.get (by decide) _
    have hv := hv x7 e7 g7
    refine lv_istore_n (lv' := [(3, .int (iI x7)), (2, .int (iI x6)), (1, .int (iI x2)), (0, .ref (ad 1))]) hx hb dX12_law_38 rfl hl (by decide) rfl (fun ls hl => ?_)
    refine r_iconst hx hb dX12_law_39 ?_
    refine lv_istore (lv' := [(4, .int (iI 0)), (3, .int (iI x7)), (2, .int (iI x6)), (1, .int (iI x2)), (0, .ref (ad 1))]) hx hb dX12_law_40 hl (by decide) rfl (fun ls hl => ?_)
    obtain ⟨n15, hv⟩ := hv
    refine L42 _ ?_ n15 x6 x7 0 M6 _ _ _ hM hv hw (lv_sub hl [4, 2, 1, 0] rfl)
    · intro v2 v3 M H locs ls hM hv hw hl
      refine lv_aload_n hx hb dX12_law_71 rfl (lv_at hl 0 rfl) ?_
      refine lv_aload_n hx hb dX12_law_72 rfl (lv_at hl 0 rfl) ?_
      refine gf_X12_52 hx hb hC hw 1 (gM_1 τ ad M) rfl dX12_law_73 ?_
      refine lv_aload_n hx hb dX12_law_76 rfl (lv_at hl 0 rfl) ?_
      refine gf_X12_231 hx hb hC hw 1 (gM_1 τ ad M) rfl dX12_law_77 ?_
      refine r_top (fun x16 e16 => ?_)
      have g16 : iR x16 := by rw [e16]; exact hM.get (by decide) _
      have hv := hv x16 e16 g16
      refine k_cVv (wq_M τ ad) hx hb hml hC hLS hA hw hl.1 (mX12_laysCode l D τ ad sA sV _ 12 x16 aM_12 g16 M hM _ hv) kX12_laysCode ml_X12_258 rfl (gM_1 τ ad M) rfl rfl (Nat.le_of_ble_eq_true rfl) (rm_ok (by decide) (by decide)) ⟨Nat.zero_le _, Nat.zero_le _⟩ dX12_law_80 (fun M17 H locs hM hv hw => ?_)
      refine lv_aload_n hx hb dX12_law_83 rfl (lv_at hl 0 rfl) ?_
      refine k_cVv (wq_M τ ad) hx hb hml hC hLS hA hw hl.1 (mX12_copies l D τ ad sA sV _   M17 hM _ hv) kX12_copies ml_X12_390 rfl (gM_1 τ ad M17) rfl rfl (Nat.le_of_ble_eq_true rfl) (rm_ok (by decide) (by decide)) ⟨Nat.zero_le _, Nat.zero_le _⟩ dX12_law_84 (fun M18 H locs hM hv hw => ?_)
      refine lv_aload_n hx hb dX12_law_87 rfl (lv_at hl 0 rfl) ?_
      refine k_cVi (wq_M τ ad) hx hb hml hC hLS hA hw hl.1 (mX12_rightThen l D τ ad sA sV _   M18 hM _ hv) kX12_rightThen ml_X12_401 rfl (gM_1 τ ad M18) rfl rfl (Nat.le_of_ble_eq_true rfl) (rm_ok (by decide) (by decide)) ⟨Nat.zero_le _, Nat.zero_le _⟩ dX12_law_88 (fun x19 M19 H locs g19 hM hv hw => ?_)
      have hv := hv g19
      refine k_cSi (wq_M τ ad) hx hb hml hC hLS hA hw hl.1 (mJ6_bitCount_0f7a4M l D τ ad sA sV _ x19 g19 M19 hM _ hv) kJ6_bitCount_0f7a4 ml_X12_279 rfl rfl (Nat.le_of_ble_eq_true rfl) (rm_ok (by decide) (by decide)) ⟨Nat.zero_le _, Nat.zero_le _⟩ dX12_law_91 (fun x20 M20 H locs g20 hM hv hw => ?_)
      have hv := hv g20
      refine lv_istore (lv' := [(4, .int (iI x20)), (0, .ref (ad 1)), (2, .int (iI v2)), (3, .int (iI v3))]) hx hb dX12_law_94 hl (by decide) rfl (fun ls hl => ?_)
      refine lv_aload_n hx hb dX12_law_96 rfl (lv_at hl 1 rfl) ?_
      refine lv_aload_n hx hb dX12_law_97 rfl (lv_at hl 1 rfl) ?_
      refine gf_X12_100 hx hb hC hw 1 (gM_1 τ ad M20) rfl dX12_law_98 ?_
      refine lv_iload_n hx hb dX12_law_101 rfl (lv_at hl 3 rfl) ?_
      obtain ⟨c21, hv⟩ := hv
      refine k_cVv (wq_M τ ad) hx hb hml hC hLS hA hw hl.1 (mX12_laysCode l D τ ad sA sV _ 28 v3 aM_28 c21 M20 hM _ hv) kX12_laysCode ml_X12_258 rfl (gM_1 τ ad M20) rfl rfl (Nat.le_of_ble_eq_true rfl) (rm_ok (by decide) (by decide)) ⟨Nat.zero_le _, Nat.zero_le _⟩ dX12_law_102 (fun M22 H locs hM hv hw => ?_)
      refine lv_aload_n hx hb dX12_law_105 rfl (lv_at hl 1 rfl) ?_
      refine r_iconst hx hb dX12_law_106 ?_
      obtain ⟨M23, e23⟩ : ∃ M23 : Mem, M23 = up2 M22 1 1 0 := ⟨_, rfl⟩
      have hv := hv M23 e23
      refine pf_X12_119 (ws' := (WM τ ad M23)) hx hb hC hw 1 (gM_1 τ ad M22) (Nat.le_of_ble_eq_true rfl) (by rw [e23]; exact sM_1_1 τ ad M22 _) dX12_law_107 (fun H locs hw => ?_)
      have hM : MR M23 := by rw [e23]; exact hM.put (by decide) (by decide)
      refine lv_aload_n hx hb dX12_law_110 rfl (lv_at hl 1 rfl) ?_
      refine lv_iload hx hb dX12_law_111 (lv_at hl 0 rfl) ?_
      refine r_i2l hx hb dX12_law_113 g20 ?_
      refine k_cVv (wq_M τ ad) hx hb hml hC hLS hA hw hl.1 (mX12_enters l D τ ad sA sV _ x20 (iR_lR g20) M23 hM _ hv) kX12_enters ml_X12_358 rfl (gM_1 τ ad M23) rfl rfl (Nat.le_of_ble_eq_true rfl) (rm_ok (by decide) (by decide)) ⟨Nat.zero_le _, Nat.zero_le _⟩ dX12_law_114 (fun M24 H locs hM hv hw => ?_)
      refine lv_aload_n hx hb dX12_law_117 rfl (lv_at hl 1 rfl) ?_
      refine lv_iload_n hx hb dX12_law_118 rfl (lv_at hl 2 rfl) ?_
      obtain ⟨c25, hv⟩ := hv
      refine r_i2l hx hb dX12_law_119 c25 ?_
      refine k_cVv (wq_M τ ad) hx hb hml hC hLS hA hw hl.1 (mX12_enters l D τ ad sA sV _ v2 (iR_lR c25) M24 hM _ hv) kX12_enters ml_X12_358 rfl (gM_1 τ ad M24) rfl rfl (Nat.le_of_ble_eq_true rfl) (rm_ok (by decide) (by decide)) ⟨Nat.zero_le _, Nat.zero_le _⟩ dX12_law_120 (fun M26 H locs hM hv hw => ?_)
      refine lv_iload hx hb dX12_law_123 (lv_at hl 0 rfl) ?_
      refine lv_iload_n hx hb dX12_law_125 rfl (lv_at hl 2 rfl) ?_
      refine r_isub (z := (x20 - v2)) hx hb dX12_law_126 rfl ?_
      obtain ⟨c27, hv⟩ := hv
      exact k_iret (wq_M τ ad) hx hb hr hlk hw hM c27 hv dX12_law_127
  · have hv := hv.2 b3
    refine lv_iload_n hx hb dX12_law_14 rfl (lv_at hl 0 rfl) ?_
    refine r_iconst hx hb dX12_law_15 ?_
    refine r_iadd (z := (x2 + 1)) hx hb dX12_law_16 rfl ?_
    refine r_sipush hx hb dX12_law_17 (by decide +kernel) ?_
    refine r_isub (z := ((x2 + 1) - 10000)) hx hb dX12_law_20 rfl ?_
    obtain ⟨c28, hv⟩ := hv
    exact k_iret (wq_M τ ad) hx hb hr hlk hw hM c28 hv dX12_law_21
set_option maxHeartbeats 4000000 in
set_option maxRecDepth 100000 in
theorem mX12_gets (l : Launch) (D : va_G) (τ : Nat → ClassId) (ad : Nat → Nat) (sA sV : Nat → Nat) (sz : Nat) (p0 : Int) (p1 : Int) (p2 : Int) (hp0 : iR p0) (hp1 : iR p1) (hp2 : iR p2) (M : Mem) (hM : MR M) (Q : Int → Mem → Prop) (hv : qX12_gets p0 p1 p2 M Q) : Met l yX12_gets (lw_w yX12_gets cX12_gets 3 (some .int)) (rmk 2 0 0) (kPc D τ sA sV (WM τ ad M) sz [.int (iI p0), .int (iI p1), .int (iI p2)]) (gQi D (EQi (WM τ ad) MR Q) (va_A (WM τ ad M) sz)) 0 0 (va_A (WM τ ad M) sz) := by
  refine k_met (ret := (some .int)) (Qc := gQi D (EQi (WM τ ad) MR Q)) (by decide +kernel) (Nat.le_of_ble_eq_true rfl) ?_
  intro p e s m args below meth c A ls hx hb hml hr hlk hnm hC hLS hA hw hl
  have hC : cx D τ s m args RX12 := hC
  have hl : lv_has ls 3 [(0, .int (iI p0)), (1, .int (iI p1)), (2, .int (iI p2))] := hl
  unfold qX12_gets at hv
  have J36 : ∀ (t0 : Int) (t1 : Int) (t2 : Int) (M : Mem) (H : Heap) (locs : List Loc) (ls : Array Slot), MR M → qX12_gets_J36 p0 p1 p2 Q t0 t1 t2 M → wS D A s.heap (WM τ ad M) H locs → lv_has ls 3 [] → W p l e (rmk 2 0 0) s m args below meth c H locs 0 0 (MQ below (gQi D (EQi (WM τ ad) MR Q) A) args s 0 0 A) (F0 m 36 ls [.int (iI t0), .int (iI t1), .int (iI t2)]) := by
    intro t0 t1 t2 M H locs ls hM hv hw hl
    unfold qX12_gets_J36 at hv
    obtain ⟨c5, hv⟩ := hv
    refine k_cSi (wq_M τ ad) hx hb hml hC hLS hA hw hl.1 (mX12_flag l D τ ad sA sV _ t0 c5 M hM _ hv) kX12_flag ml_X12_154 rfl rfl (Nat.le_of_ble_eq_true rfl) (rm_ok (by decide) (by decide)) ⟨Nat.zero_le _, Nat.zero_le _⟩ dX12_gets_36 (fun x6 M6 H locs g6 hM hv hw => ?_)
    have hv := hv g6
    refine r_imul (z := (t1 * x6)) hx hb dX12_gets_39 rfl ?_
    refine r_isub (z := (t2 - (t1 * x6))) hx hb dX12_gets_40 rfl ?_
    obtain ⟨c7, hv⟩ := hv
    exact k_iret (wq_M τ ad) hx hb hr hlk hw hM c7 hv dX12_gets_41
  have J21 : ∀ (t0 : Int) (M : Mem) (H : Heap) (locs : List Loc) (ls : Array Slot), MR M → qX12_gets_J21 p0 p1 p2 Q t0 M → wS D A s.heap (WM τ ad M) H locs → lv_has ls 3 [(0, .int (iI p0)), (1, .int (iI p1))] → W p l e (rmk 2 0 0) s m args below meth c H locs 0 0 (MQ below (gQi D (EQi (WM τ ad) MR Q) A) args s 0 0 A) (F0 m 21 ls [.int (iI t0)]) := by
    intro t0 M H locs ls hM hv hw hl
    unfold qX12_gets_J21 at hv
    refine lv_iload_n hx hb dX12_gets_21 rfl (lv_at hl 0 rfl) ?_
    refine r_isub (z := (t0 - p0)) hx hb dX12_gets_22 rfl ?_
    refine r_iconst hx hb dX12_gets_23 ?_
    refine lv_iload_n hx hb dX12_gets_24 rfl (lv_at hl 0 rfl) ?_
    refine r_iconst hx hb dX12_gets_25 ?_
    refine lv_iload_n hx hb dX12_gets_26 rfl (lv_at hl 1 rfl) ?_
    refine r_imul (z := (2 * p1)) hx hb dX12_gets_27 rfl ?_
    obtain ⟨c3, hv⟩ := hv
    refine r_icmp_le (tgt := 35) hx hb dX12_gets_28 (by decide) hp0 c3 (fun b4 => ?_) (fun b4 => ?_)
    · have hv := hv.1 b4
      refine r_iconst hx hb dX12_gets_35 ?_
      exact J36 0 3 (t0 - p0) M _ _ _ hM hv hw (lv_sub hl [] rfl)
    · have hv := hv.2 b4
      refine r_iconst hx hb dX12_gets_31 ?_
      refine lv_goto (tgt := 36) hx hb dX12_gets_32 (by decide) ?_
      exact J36 1 3 (t0 - p0) M _ _ _ hM hv hw (lv_sub hl [] rfl)
  refine lv_iload_n hx hb dX12_gets_0 rfl (lv_at hl 0 rfl) ?_
  refine lv_iload_n hx hb dX12_gets_1 rfl (lv_at hl 1 rfl) ?_
  refine r_icmp_le (tgt := 9) hx hb dX12_gets_2 (by decide) hp0 hp1 (fun b1 => ?_) (fun b1 => ?_)
  · have hv := hv.1 b1
    refine lv_iload_n hx hb dX12_gets_9 rfl (lv_at hl 0 rfl) ?_
    refine lv_iload_n hx hb dX12_gets_10 rfl (lv_at hl 1 rfl) ?_
    refine r_icmp_ne (tgt := 20) hx hb dX12_gets_11 (by decide) hp0 hp1 (fun b2 => ?_) (fun b2 => ?_)
    · have hv := hv.1 b2
      refine r_iconst hx hb dX12_gets_20 ?_
      exact J21 0 M _ _ _ hM hv hw (lv_sub hl [0, 1] rfl)
    · have hv := hv.2 b2
      refine lv_iload_n hx hb dX12_gets_14 rfl (lv_at hl 2 rfl) ?_
      refine r_iconst hx hb dX12_gets_15 ?_
      refine r_idivF hx hb dX12_gets_16 (by decide) (by decide) (fun x8 e8 g8 => ?_)
      have hv := hv x8 e8 g8
      refine lv_goto (tgt := 21) hx hb dX12_gets_17 (by decide) ?_
      exact J21 x8 M _ _ _ hM hv hw (lv_sub hl [0, 1] rfl)
  · have hv := hv.2 b1
    refine lv_iload_n hx hb dX12_gets_5 rfl (lv_at hl 2 rfl) ?_
    refine lv_goto (tgt := 21) hx hb dX12_gets_6 (by decide) ?_
    exact J21 p2 M _ _ _ hM hv hw (lv_sub hl [0, 1] rfl)
set_option maxHeartbeats 4000000 in
set_option maxRecDepth 100000 in
theorem mX12_isRest (l : Launch) (D : va_G) (τ : Nat → ClassId) (ad : Nat → Nat) (sA sV : Nat → Nat) (sz : Nat) (p0 : Int) (p1 : Int) (p2 : Int) (hp0 : iR p0) (hp1 : iR p1) (hp2 : iR p2) (M : Mem) (hM : MR M) (Q : Int → Mem → Prop) (hv : qX12_isRest p0 p1 p2 M Q) : Met l yX12_isRest (lw_w yX12_isRest cX12_isRest 5 (some .boolean)) (rmk 3 0 0) (kPc D τ sA sV (WM τ ad M) sz [.int (iI p0), .int (iI p1), .int (iI p2)]) (gQi D (EQz (WM τ ad) MR Q) (va_A (WM τ ad M) sz)) 0 0 (va_A (WM τ ad M) sz) := by
  refine k_met (ret := (some .boolean)) (Qc := gQi D (EQz (WM τ ad) MR Q)) (by decide +kernel) (Nat.le_of_ble_eq_true rfl) ?_
  intro p e s m args below meth c A ls hx hb hml hr hlk hnm hC hLS hA hw hl
  have hC : cx D τ s m args RX12 := hC
  have hl : lv_has ls 5 [(0, .int (iI p0)), (1, .int (iI p1)), (2, .int (iI p2))] := hl
  unfold qX12_isRest at hv
  have L5 : ∀ (n : Nat) (v3 : Int) (v4 : Int) (M : Mem) (H : Heap) (locs : List Loc) (ls : Array Slot), MR M → qX12_isRest_L5 p0 p1 p2  Q n v3 v4 M → wS D A s.heap (WM τ ad M) H locs → lv_has ls 5 [(0, .int (iI p0)), (1, .int (iI p1)), (2, .int (iI p2)), (3, .int (iI v3)), (4, .int (iI v4))] → W p l e (rmk 3 0 0) s m args below meth c H locs 0 0 (MQ below (gQi D (EQz (WM τ ad) MR Q) A) args s 0 0 A) (F0 m 5 ls []) := by
    intro n
    induction n with
    | zero => intro v3 v4 M H locs ls hM hv; rw [qX12_isRest_L5] at hv; exact hv.elim
    | succ n ih =>
      intro v3 v4 M H locs ls hM hv hw hl
      rw [qX12_isRest_L5] at hv
      refine lv_iload hx hb dX12_isRest_5 (lv_at hl 4 rfl) ?_
      refine r_bipush hx hb dX12_isRest_7 (by decide +kernel) ?_
      obtain ⟨c1, hv⟩ := hv
      refine r_icmp_gt (tgt := 44) hx hb dX12_isRest_9 (by decide) c1 (by decide) (fun b2 => ?_) (fun b2 => ?_)
      · have hv := hv.1 b2
        refine lv_iload_n hx hb dX12_isRest_44 rfl (lv_at hl 3 rfl) ?_
        obtain ⟨c3, hv⟩ := hv
        obtain ⟨c4, hv⟩ := hv
        exact k_zret (wq_M τ ad) hx hb hr hlk hw hM c3 c4 hv dX12_isRest_45
      · have hv := hv.2 b2
        refine lv_iload_n hx hb dX12_isRest_12 rfl (lv_at hl 3 rfl) ?_
        obtain ⟨c5, hv⟩ := hv
        refine r_if_eq (tgt := 36) hx hb dX12_isRest_13 (by decide) c5  (fun b6 => ?_) (fun b6 => ?_)
        · have hv := hv.1 b6
          refine r_iconst hx hb dX12_isRest_36 ?_
          refine lv_istore_n (lv' := [(3, .int (iI 0)), (0, .int (iI p0)), (1, .int (iI p1)), (2, .int (iI p2)), (4, .int (iI v4))]) hx hb dX12_isRest_37 rfl hl (by decide) rfl (fun ls hl => ?_)
          refine r_iinc (v := (v4 + 1)) (lv' := [(4, .int (iI (v4 + 1))), (3, .int (iI 0)), (0, .int (iI p0)), (1, .int (iI p1)), (2, .int (iI p2))]) hx hb dX12_isRest_38 hl (k := 4) rfl rfl (by decide) rfl (fun ls hl => ?_)
          refine lv_goto (tgt := 5) hx hb dX12_isRest_41 (by decide) ?_
          exact ih 0 (v4 + 1) M _ _ _ hM hv hw (lv_sub hl [2, 3, 4, 1, 0] rfl)
        · have hv := hv.2 b6
          refine lv_iload hx hb dX12_isRest_16 (lv_at hl 4 rfl) ?_
          refine lv_iload_n hx hb dX12_isRest_18 rfl (lv_at hl 1 rfl) ?_
          refine lv_iload_n hx hb dX12_isRest_19 rfl (lv_at hl 2 rfl) ?_
          refine k_cSi (wq_M τ ad) hx hb hml hC hLS hA hw hl.1 (mX12_gets l D τ ad sA sV _ v4 p1 p2 c1 hp1 hp2 M hM _ hv) kX12_gets ml_X12_434 rfl rfl (Nat.le_of_ble_eq_true rfl) (rm_ok (by decide) (by decide)) ⟨Nat.zero_le _, Nat.zero_le _⟩ dX12_isRest_20 (fun x7 M7 H locs g7 hM hv hw => ?_)
          have hv := hv g7
          refine lv_iload_n hx hb dX12_isRest_23 rfl (lv_at hl 0 rfl) ?_
          refine lv_iload_n hx hb dX12_isRest_24 rfl (lv_at hl 1 rfl) ?_
          refine lv_iload_n hx hb dX12_isRest_25 rfl (lv_at hl 2 rfl) ?_
          refine k_cSi (wq_M τ ad) hx hb hml hC hLS hA hw hl.1 (mX12_gets l D τ ad sA sV _ p0 p1 p2 hp0 hp1 hp2 M7 hM _ hv) kX12_gets ml_X12_434 rfl rfl (Nat.le_of_ble_eq_true rfl) (rm_ok (by decide) (by decide)) ⟨Nat.zero_le _, Nat.zero_le _⟩ dX12_isRest_26 (fun x8 M8 H locs g8 hM hv hw => ?_)
          have hv := hv g8
          refine r_icmp_gt (tgt := 36) hx hb dX12_isRest_29 (by decide) g7 g8 (fun b9 => ?_) (fun b9 => ?_)
          · have hv := hv.1 b9
            refine r_iconst hx hb dX12_isRest_36 ?_
            refine lv_istore_n (lv' := [(3, .int (iI 0)), (0, .int (iI p0)), (1, .int (iI p1)), (2, .int (iI p2)), (4, .int (iI v4))]) hx hb dX12_isRest_37 rfl hl (by decide) rfl (fun ls hl => ?_)
            refine r_iinc (v := (v4 + 1)) (lv' := [(4, .int (iI (v4 + 1))), (3, .int (iI 0)), (0, .int (iI p0)), (1, .int (iI p1)), (2, .int (iI p2))]) hx hb dX12_isRest_38 hl (k := 4) rfl rfl (by decide) rfl (fun ls hl => ?_)
            refine lv_goto (tgt := 5) hx hb dX12_isRest_41 (by decide) ?_
            exact ih 0 (v4 + 1) M8 _ _ _ hM hv hw (lv_sub hl [2, 3, 4, 1, 0] rfl)
          · have hv := hv.2 b9
            refine r_iconst hx hb dX12_isRest_32 ?_
            refine lv_goto (tgt := 37) hx hb dX12_isRest_33 (by decide) ?_
            refine lv_istore_n (lv' := [(3, .int (iI 1)), (0, .int (iI p0)), (1, .int (iI p1)), (2, .int (iI p2)), (4, .int (iI v4))]) hx hb dX12_isRest_37 rfl hl (by decide) rfl (fun ls hl => ?_)
            refine r_iinc (v := (v4 + 1)) (lv' := [(4, .int (iI (v4 + 1))), (3, .int (iI 1)), (0, .int (iI p0)), (1, .int (iI p1)), (2, .int (iI p2))]) hx hb dX12_isRest_38 hl (k := 4) rfl rfl (by decide) rfl (fun ls hl => ?_)
            refine lv_goto (tgt := 5) hx hb dX12_isRest_41 (by decide) ?_
            exact ih 1 (v4 + 1) M8 _ _ _ hM hv hw (lv_sub hl [2, 3, 4, 1, 0] rfl)
  refine r_iconst hx hb dX12_isRest_0 ?_
  refine lv_istore_n (lv' := [(3, .int (iI 1)), (0, .int (iI p0)), (1, .int (iI p1)), (2, .int (iI p2))]) hx hb dX12_isRest_1 rfl hl (by decide) rfl (fun ls hl => ?_)
  refine r_iconst hx hb dX12_isRest_2 ?_
  refine lv_istore (lv' := [(4, .int (iI 0)), (3, .int (iI 1)), (0, .int (iI p0)), (1, .int (iI p1)), (2, .int (iI p2))]) hx hb dX12_isRest_3 hl (by decide) rfl (fun ls hl => ?_)
  obtain ⟨n10, hv⟩ := hv
  refine L5  n10 1 0 M _ _ _ hM hv hw (lv_sub hl [2, 3, 4, 1, 0] rfl)
set_option maxHeartbeats 4000000 in
set_option maxRecDepth 100000 in
theorem mX12_rests (l : Launch) (D : va_G) (τ : Nat → ClassId) (ad : Nat → Nat) (sA sV : Nat → Nat) (sz : Nat) (p1 : Int) (hp1 : iR p1) (M : Mem) (hM : MR M) (Q : Int → Mem → Prop) (hv : qX12_rests p1 M Q) : Met l yX12_rests (lw_w yX12_rests cX12_rests 5 (some .int)) (rmk 4 0 0) (kPc D τ sA sV (WM τ ad M) sz [.ref (ad 1), .int (iI p1)]) (gQi D (EQi (WM τ ad) MR Q) (va_A (WM τ ad M) sz)) 0 0 (va_A (WM τ ad M) sz) := by
  refine k_met (ret := (some .int)) (Qc := gQi D (EQi (WM τ ad) MR Q)) (by decide +kernel) (Nat.le_of_ble_eq_true rfl) ?_
  intro p e s m args below meth c A ls hx hb hml hr hlk hnm hC hLS hA hw hl
  have hC : cx D τ s m args RX12 := hC
  have hl : lv_has ls 5 [(0, .ref (ad 1)), (1, .int (iI p1))] := hl
  unfold qX12_rests at hv
  have L37 : ∀ (X90 : Int → Int → Mem → Prop), (∀ (v2 : Int) (v3 : Int) (M : Mem) (H : Heap) (locs : List Loc) (ls : Array Slot), MR M → X90 v2 v3 M → wS D A s.heap (WM τ ad M) H locs → lv_has ls 5 [(0, .ref (ad 1)), (1, .int (iI p1)), (2, .int (iI v2)), (3, .int (iI v3))] → W p l e (rmk 4 0 0) s m args below meth c H locs 0 0 (MQ below (gQi D (EQi (WM τ ad) MR Q) A) args s 0 0 A) (F0 m 90 ls [])) → ∀ (n : Nat) (v2 : Int) (v3 : Int) (v4 : Int) (M : Mem) (H : Heap) (locs : List Loc) (ls : Array Slot), MR M → qX12_rests_L37 p1 X90 Q n v2 v3 v4 M → wS D A s.heap (WM τ ad M) H locs → lv_has ls 5 [(0, .ref (ad 1)), (1, .int (iI p1)), (2, .int (iI v2)), (3, .int (iI v3)), (4, .int (iI v4))] → W p l e (rmk 4 0 0) s m args below meth c H locs 0 0 (MQ below (gQi D (EQi (WM τ ad) MR Q) A) args s 0 0 A) (F0 m 37 ls []) := by
    intro X90 hX90 n
    induction n with
    | zero => intro v2 v3 v4 M H locs ls hM hv; rw [qX12_rests_L37] at hv; exact hv.elim
    | succ n ih =>
      intro v2 v3 v4 M H locs ls hM hv hw hl
      rw [qX12_rests_L37] at hv
      refine lv_iload hx hb dX12_rests_37 (lv_at hl 4 rfl) ?_
      refine r_bipush hx hb dX12_rests_39 (by decide +kernel) ?_
      obtain ⟨c8, hv⟩ := hv
      refine r_icmp_gt (tgt := 90) hx hb dX12_rests_41 (by decide) c8 (by decide) (fun b9 => ?_) (fun b9 => ?_)
      · have hv := hv.1 b9
        exact hX90 v2 v3 M _ _ _ hM hv hw (lv_sub hl [0, 1, 2, 3] rfl)
      · have hv := hv.2 b9
        refine lv_iload_n hx hb dX12_rests_44 rfl (lv_at hl 3 rfl) ?_
        refine lv_iload hx hb dX12_rests_45 (lv_at hl 4 rfl) ?_
        refine lv_iload_n hx hb dX12_rests_47 rfl (lv_at hl 1 rfl) ?_
        obtain ⟨c10, hv⟩ := hv
        refine k_cSz (wq_M τ ad) hx hb hml hC hLS hA hw hl.1 (mX12_isRest l D τ ad sA sV _ v3 v4 p1 c10 c8 hp1 M hM _ hv) kX12_isRest ml_X12_439 rfl rfl (Nat.le_of_ble_eq_true rfl) (rm_ok (by decide) (by decide)) ⟨Nat.zero_le _, Nat.zero_le _⟩ dX12_rests_48 (fun x11 M11 H locs g11 z11 hM hv hw => ?_)
        have hv := hv g11 z11
        refine r_if_eq (tgt := 84) hx hb dX12_rests_51 (by decide) g11  (fun b12 => ?_) (fun b12 => ?_)
        · have hv := hv.1 b12
          refine r_iinc (v := (v4 + 1)) (lv' := [(4, .int (iI (v4 + 1))), (0, .ref (ad 1)), (1, .int (iI p1)), (2, .int (iI v2)), (3, .int (iI v3))]) hx hb dX12_rests_84 hl (k := 4) rfl rfl (by decide) rfl (fun ls hl => ?_)
          refine lv_goto (tgt := 37) hx hb dX12_rests_87 (by decide) ?_
          exact ih v2 v3 (v4 + 1) M11 _ _ _ hM hv hw (lv_sub hl [1, 2, 3, 4, 0] rfl)
        · have hv := hv.2 b12
          refine lv_iload hx hb dX12_rests_54 (lv_at hl 4 rfl) ?_
          refine lv_iload_n hx hb dX12_rests_56 rfl (lv_at hl 3 rfl) ?_
          refine lv_iload_n hx hb dX12_rests_57 rfl (lv_at hl 1 rfl) ?_
          refine k_cSz (wq_M τ ad) hx hb hml hC hLS hA hw hl.1 (mX12_isRest l D τ ad sA sV _ v4 v3 p1 c8 c10 hp1 M11 hM _ hv) kX12_isRest ml_X12_439 rfl rfl (Nat.le_of_ble_eq_true rfl) (rm_ok (by decide) (by decide)) ⟨Nat.zero_le _, Nat.zero_le _⟩ dX12_rests_58 (fun x13 M13 H locs g13 z13 hM hv hw => ?_)
          have hv := hv g13 z13
          refine r_if_eq (tgt := 84) hx hb dX12_rests_61 (by decide) g13  (fun b14 => ?_) (fun b14 => ?_)
          · have hv := hv.1 b14
            refine r_iinc (v := (v4 + 1)) (lv' := [(4, .int (iI (v4 + 1))), (0, .ref (ad 1)), (1, .int (iI p1)), (2, .int (iI v2)), (3, .int (iI v3))]) hx hb dX12_rests_84 hl (k := 4) rfl rfl (by decide) rfl (fun ls hl => ?_)
            refine lv_goto (tgt := 37) hx hb dX12_rests_87 (by decide) ?_
            exact ih v2 v3 (v4 + 1) M13 _ _ _ hM hv hw (lv_sub hl [1, 2, 3, 4, 0] rfl)
          · have hv := hv.2 b14
            refine lv_iload_n hx hb dX12_rests_64 rfl (lv_at hl 2 rfl) ?_
            obtain ⟨c15, hv⟩ := hv
            refine r_if_ne (tgt := 81) hx hb dX12_rests_65 (by decide) c15  (fun b16 => ?_) (fun b16 => ?_)
            · have hv := hv.1 b16
              refine r_iinc (v := (v2 + 1)) (lv' := [(2, .int (iI (v2 + 1))), (0, .ref (ad 1)), (1, .int (iI p1)), (3, .int (iI v3)), (4, .int (iI v4))]) hx hb dX12_rests_81 hl (k := 2) rfl rfl (by decide) rfl (fun ls hl => ?_)
              refine r_iinc (v := (v4 + 1)) (lv' := [(4, .int (iI (v4 + 1))), (2, .int (iI (v2 + 1))), (0, .ref (ad 1)), (1, .int (iI p1)), (3, .int (iI v3))]) hx hb dX12_rests_84 hl (k := 4) rfl rfl (by decide) rfl (fun ls hl => ?_)
              refine lv_goto (tgt := 37) hx hb dX12_rests_87 (by decide) ?_
              exact ih (v2 + 1) v3 (v4 + 1) M13 _ _ _ hM hv hw (lv_sub hl [2, 3, 1, 4, 0] rfl)
            · have hv := hv.2 b16
              refine lv_aload_n hx hb dX12_rests_68 rfl (lv_at hl 0 rfl) ?_
              refine lv_iload_n hx hb dX12_rests_69 rfl (lv_at hl 3 rfl) ?_
              refine r_i2l hx hb dX12_rests_70 c10 ?_
              refine k_cVv (wq_M τ ad) hx hb hml hC hLS hA hw hl.1 (mX12_enters l D τ ad sA sV _ v3 (iR_lR c10) M13 hM _ hv) kX12_enters ml_X12_358 rfl (gM_1 τ ad M13) rfl rfl (Nat.le_of_ble_eq_true rfl) (rm_ok (by decide) (by decide)) ⟨Nat.zero_le _, Nat.zero_le _⟩ dX12_rests_71 (fun M17 H locs hM hv hw => ?_)
              refine lv_aload_n hx hb dX12_rests_74 rfl (lv_at hl 0 rfl) ?_
              refine lv_iload hx hb dX12_rests_75 (lv_at hl 4 rfl) ?_
              refine r_i2l hx hb dX12_rests_77 c8 ?_
              refine k_cVv (wq_M τ ad) hx hb hml hC hLS hA hw hl.1 (mX12_enters l D τ ad sA sV _ v4 (iR_lR c8) M17 hM _ hv) kX12_enters ml_X12_358 rfl (gM_1 τ ad M17) rfl rfl (Nat.le_of_ble_eq_true rfl) (rm_ok (by decide) (by decide)) ⟨Nat.zero_le _, Nat.zero_le _⟩ dX12_rests_78 (fun M18 H locs hM hv hw => ?_)
              refine r_iinc (v := (v2 + 1)) (lv' := [(2, .int (iI (v2 + 1))), (0, .ref (ad 1)), (1, .int (iI p1)), (3, .int (iI v3)), (4, .int (iI v4))]) hx hb dX12_rests_81 hl (k := 2) rfl rfl (by decide) rfl (fun ls hl => ?_)
              refine r_iinc (v := (v4 + 1)) (lv' := [(4, .int (iI (v4 + 1))), (2, .int (iI (v2 + 1))), (0, .ref (ad 1)), (1, .int (iI p1)), (3, .int (iI v3))]) hx hb dX12_rests_84 hl (k := 4) rfl rfl (by decide) rfl (fun ls hl => ?_)
              refine lv_goto (tgt := 37) hx hb dX12_rests_87 (by decide) ?_
              exact ih (v2 + 1) v3 (v4 + 1) M18 _ _ _ hM hv hw (lv_sub hl [2, 3, 1, 4, 0] rfl)
  have L28 : ∀ (n : Nat) (v2 : Int) (v3 : Int) (M : Mem) (H : Heap) (locs : List Loc) (ls : Array Slot), MR M → qX12_rests_L28 p1  Q n v2 v3 M → wS D A s.heap (WM τ ad M) H locs → lv_has ls 5 [(0, .ref (ad 1)), (1, .int (iI p1)), (2, .int (iI v2)), (3, .int (iI v3))] → W p l e (rmk 4 0 0) s m args below meth c H locs 0 0 (MQ below (gQi D (EQi (WM τ ad) MR Q) A) args s 0 0 A) (F0 m 28 ls []) := by
    intro n
    induction n with
    | zero => intro v2 v3 M H locs ls hM hv; rw [qX12_rests_L28] at hv; exact hv.elim
    | succ n ih =>
      intro v2 v3 M H locs ls hM hv hw hl
      rw [qX12_rests_L28] at hv
      refine lv_iload_n hx hb dX12_rests_28 rfl (lv_at hl 3 rfl) ?_
      refine r_bipush hx hb dX12_rests_29 (by decide +kernel) ?_
      obtain ⟨c5, hv⟩ := hv
      refine r_icmp_gt (tgt := 96) hx hb dX12_rests_31 (by decide) c5 (by decide) (fun b6 => ?_) (fun b6 => ?_)
      · have hv := hv.1 b6
        refine lv_iload_n hx hb dX12_rests_96 rfl (lv_at hl 2 rfl) ?_
        obtain ⟨c7, hv⟩ := hv
        exact k_iret (wq_M τ ad) hx hb hr hlk hw hM c7 hv dX12_rests_97
      · have hv := hv.2 b6
        refine r_iconst hx hb dX12_rests_34 ?_
        refine lv_istore (lv' := [(4, .int (iI 0)), (0, .ref (ad 1)), (1, .int (iI p1)), (2, .int (iI v2)), (3, .int (iI v3))]) hx hb dX12_rests_35 hl (by decide) rfl (fun ls hl => ?_)
        obtain ⟨n19, hv⟩ := hv
        refine L37 _ ?_ n19 v2 v3 0 M _ _ _ hM hv hw (lv_sub hl [1, 2, 3, 4, 0] rfl)
        · intro v2 v3 M H locs ls hM hv hw hl
          refine r_iinc (v := (v3 + 1)) (lv' := [(3, .int (iI (v3 + 1))), (0, .ref (ad 1)), (1, .int (iI p1)), (2, .int (iI v2))]) hx hb dX12_rests_90 hl (k := 3) rfl rfl (by decide) rfl (fun ls hl => ?_)
          refine lv_goto (tgt := 28) hx hb dX12_rests_93 (by decide) ?_
          exact ih v2 (v3 + 1) M _ _ _ hM hv hw (lv_sub hl [1, 2, 3, 0] rfl)
  refine lv_aload_n hx hb dX12_rests_0 rfl (lv_at hl 0 rfl) ?_
  refine r_iconst hx hb dX12_rests_1 ?_
  obtain ⟨M1, e1⟩ : ∃ M1 : Mem, M1 = up2 M 1 0 0 := ⟨_, rfl⟩
  have hv := hv M1 e1
  refine pf_X12_112 (ws' := (WM τ ad M1)) hx hb hC hw 1 (gM_1 τ ad M) (Nat.le_of_ble_eq_true rfl) (by rw [e1]; exact sM_1_0 τ ad M _) dX12_rests_2 (fun H locs hw => ?_)
  have hM : MR M1 := by rw [e1]; exact hM.put (by decide) (by decide)
  refine lv_iload_n hx hb dX12_rests_5 rfl (lv_at hl 1 rfl) ?_
  refine r_i2l hx hb dX12_rests_6 hp1 ?_
  refine r_lconst (z := 0) hx hb dX12_rests_7 (by decide +kernel) ?_
  refine r_ldc2 (z := 20) hx hb hC ct_X12_437 (by decide +kernel) dX12_rests_8 ?_
  refine k_cSz (wq_M τ ad) hx hb hml hC hLS hA hw hl.1 (mX12_in l D τ ad sA sV _ p1 0 20 (iR_lR hp1) (by decide) (by decide) M1 hM _ hv) kX12_in ml_X12_125 rfl rfl (Nat.le_of_ble_eq_true rfl) (rm_ok (by decide) (by decide)) ⟨Nat.zero_le _, Nat.zero_le _⟩ dX12_rests_11 (fun x2 M2 H locs g2 z2 hM hv hw => ?_)
  have hv := hv g2 z2
  refine r_if_ne (tgt := 19) hx hb dX12_rests_14 (by decide) g2  (fun b3 => ?_) (fun b3 => ?_)
  · have hv := hv.1 b3
    refine r_iconst hx hb dX12_rests_19 ?_
    refine lv_istore_n (lv' := [(2, .int (iI 0)), (0, .ref (ad 1)), (1, .int (iI p1))]) hx hb dX12_rests_20 rfl hl (by decide) rfl (fun ls hl => ?_)
    refine lv_aload_n hx hb dX12_rests_21 rfl (lv_at hl 1 rfl) ?_
    refine r_iconst hx hb dX12_rests_22 ?_
    obtain ⟨M4, e4⟩ : ∃ M4 : Mem, M4 = up2 M2 1 1 0 := ⟨_, rfl⟩
    have hv := hv M4 e4
    refine pf_X12_119 (ws' := (WM τ ad M4)) hx hb hC hw 1 (gM_1 τ ad M2) (Nat.le_of_ble_eq_true rfl) (by rw [e4]; exact sM_1_1 τ ad M2 _) dX12_rests_23 (fun H locs hw => ?_)
    have hM : MR M4 := by rw [e4]; exact hM.put (by decide) (by decide)
    refine r_iconst hx hb dX12_rests_26 ?_
    refine lv_istore_n (lv' := [(3, .int (iI 0)), (2, .int (iI 0)), (0, .ref (ad 1)), (1, .int (iI p1))]) hx hb dX12_rests_27 rfl hl (by decide) rfl (fun ls hl => ?_)
    obtain ⟨n20, hv⟩ := hv
    refine L28  n20 0 0 M4 _ _ _ hM hv hw (lv_sub hl [2, 3, 1, 0] rfl)
  · have hv := hv.2 b3
    refine r_iconst hx hb dX12_rests_17 ?_
    exact k_iret (wq_M τ ad) hx hb hr hlk hw hM (by decide) hv dX12_rests_18
set_option maxHeartbeats 4000000 in
set_option maxRecDepth 100000 in
theorem mX12_draws (l : Launch) (D : va_G) (τ : Nat → ClassId) (ad : Nat → Nat) (sA sV : Nat → Nat) (sz : Nat) (p1 : Int) (hp1 : iR p1) (M : Mem) (hM : MR M) (Q : Int → Mem → Prop) (hv : qX12_draws p1 M Q) : Met l yX12_draws (lw_w yX12_draws cX12_draws 2 (some .int)) (rmk 1 0 0) (kPc D τ sA sV (WM τ ad M) sz [.ref (ad 1), .int (iI p1)]) (gQi D (EQi (WM τ ad) MR Q) (va_A (WM τ ad M) sz)) 0 0 (va_A (WM τ ad M) sz) := by
  refine k_met (ret := (some .int)) (Qc := gQi D (EQi (WM τ ad) MR Q)) (by decide +kernel) (Nat.le_of_ble_eq_true rfl) ?_
  intro p e s m args below meth c A ls hx hb hml hr hlk hnm hC hLS hA hw hl
  have hC : cx D τ s m args RX12 := hC
  have hl : lv_has ls 2 [(0, .ref (ad 1)), (1, .int (iI p1))] := hl
  unfold qX12_draws at hv
  refine lv_aload_n hx hb dX12_draws_0 rfl (lv_at hl 0 rfl) ?_
  refine lv_aload_n hx hb dX12_draws_1 rfl (lv_at hl 0 rfl) ?_
  refine gf_X12_442 hx hb hC hw 1 (gM_1 τ ad M) rfl dX12_draws_2 ?_
  refine r_top (fun x1 e1 => ?_)
  have g1 : iR x1 := by rw [e1]; exact hM.get (by decide) _
  have hv := hv x1 e1 g1
  refine r_ldcw (z := 1103515245) hx hb hC ct_X12_445 (by decide +kernel) dX12_draws_5 ?_
  refine r_imulW hx hb dX12_draws_8 (fun x2 e2 g2 => ?_)
  have hv := hv x2 e2 g2
  refine r_sipush hx hb dX12_draws_9 (by decide +kernel) ?_
  refine r_iaddW hx hb dX12_draws_12 (fun x3 e3 g3 => ?_)
  have hv := hv x3 e3 g3
  obtain ⟨M4, e4⟩ : ∃ M4 : Mem, M4 = up2 M 1 49 x3 := ⟨_, rfl⟩
  have hv := hv M4 e4
  refine pf_X12_442 (ws' := (WM τ ad M4)) hx hb hC hw 1 (gM_1 τ ad M) (Nat.le_of_ble_eq_true rfl) (by rw [e4]; exact sM_1_49 τ ad M _) dX12_draws_13 (fun H locs hw => ?_)
  have hM : MR M4 := by rw [e4]; exact hM.put (by decide) g3
  refine lv_aload_n hx hb dX12_draws_16 rfl (lv_at hl 0 rfl) ?_
  refine gf_X12_442 hx hb hC hw 1 (gM_1 τ ad M4) rfl dX12_draws_17 ?_
  refine r_top (fun x5 e5 => ?_)
  have g5 : iR x5 := by rw [e5]; exact hM.get (by decide) _
  have hv := hv x5 e5 g5
  refine r_bipush hx hb dX12_draws_20 (by decide +kernel) ?_
  refine r_iushrF hx hb dX12_draws_22 (fun x6 e6 g6 => ?_)
  have hv := hv x6 e6 g6
  refine lv_iload_n hx hb dX12_draws_23 rfl (lv_at hl 1 rfl) ?_
  obtain ⟨c7, hv⟩ := hv
  refine r_iremF hx hb dX12_draws_24 hp1 c7 (fun x8 e8 g8 => ?_)
  have hv := hv x8 e8 g8
  exact k_iret (wq_M τ ad) hx hb hr hlk hw hM g8 hv dX12_draws_25
set_option maxHeartbeats 4000000 in
set_option maxRecDepth 100000 in
theorem mX12_years (l : Launch) (D : va_G) (τ : Nat → ClassId) (ad : Nat → Nat) (sA sV : Nat → Nat) (sz : Nat) (p1 : Int) (p2 : Int) (hp1 : iR p1) (hp2 : iR p2) (M : Mem) (hM : MR M) (Q : Int → Mem → Prop) (hv : qX12_years p1 p2 M Q) : Met l yX12_years (lw_w yX12_years cX12_years 6 (some .int)) (rmk 7 0 0) (kPc D τ sA sV (WM τ ad M) sz [.ref (ad 1), .int (iI p1), .int (iI p2)]) (gQi D (EQi (WM τ ad) MR Q) (va_A (WM τ ad M) sz)) 0 0 (va_A (WM τ ad M) sz) := by
  refine k_met (ret := (some .int)) (Qc := gQi D (EQi (WM τ ad) MR Q)) (by decide +kernel) (Nat.le_of_ble_eq_true rfl) ?_
  intro p e s m args below meth c A ls hx hb hml hr hlk hnm hC hLS hA hw hl
  have hC : cx D τ s m args RX12 := hC
  have hl : lv_has ls 6 [(0, .ref (ad 1)), (1, .int (iI p1)), (2, .int (iI p2))] := hl
  unfold qX12_years at hv
  have L30 : ∀ (X120 : Mem → Prop), (∀  (M : Mem) (H : Heap) (locs : List Loc) (ls : Array Slot), MR M → X120  M → wS D A s.heap (WM τ ad M) H locs → lv_has ls 6 [(0, .ref (ad 1))] → W p l e (rmk 7 0 0) s m args below meth c H locs 0 0 (MQ below (gQi D (EQi (WM τ ad) MR Q) A) args s 0 0 A) (F0 m 120 ls [])) → ∀ (n : Nat) (v3 : Int) (M : Mem) (H : Heap) (locs : List Loc) (ls : Array Slot), MR M → qX12_years_L30 p1 p2 X120 Q n v3 M → wS D A s.heap (WM τ ad M) H locs → lv_has ls 6 [(0, .ref (ad 1)), (2, .int (iI p2)), (3, .int (iI v3))] → W p l e (rmk 7 0 0) s m args below meth c H locs 0 0 (MQ below (gQi D (EQi (WM τ ad) MR Q) A) args s 0 0 A) (F0 m 30 ls []) := by
    intro X120 hX120 n
    induction n with
    | zero => intro v3 M H locs ls hM hv; rw [qX12_years_L30] at hv; exact hv.elim
    | succ n ih =>
      intro v3 M H locs ls hM hv hw hl
      rw [qX12_years_L30] at hv
      refine lv_iload_n hx hb dX12_years_30 rfl (lv_at hl 2 rfl) ?_
      refine lv_iload_n hx hb dX12_years_31 rfl (lv_at hl 1 rfl) ?_
      obtain ⟨c6, hv⟩ := hv
      refine r_icmp_ge (tgt := 120) hx hb dX12_years_32 (by decide) c6 hp2 (fun b7 => ?_) (fun b7 => ?_)
      · have hv := hv.1 b7
        exact hX120  M _ _ _ hM hv hw (lv_sub hl [0] rfl)
      · have hv := hv.2 b7
        refine lv_aload_n hx hb dX12_years_35 rfl (lv_at hl 0 rfl) ?_
        refine r_iconst hx hb dX12_years_36 ?_
        refine k_cVi (wq_M τ ad) hx hb hml hC hLS hA hw hl.1 (mX12_draws l D τ ad sA sV _ 4 (by decide) M hM _ hv) kX12_draws ml_X12_446 rfl (gM_1 τ ad M) rfl rfl (Nat.le_of_ble_eq_true rfl) (rm_ok (by decide) (by decide)) ⟨Nat.zero_le _, Nat.zero_le _⟩ dX12_years_37 (fun x8 M8 H locs g8 hM hv hw => ?_)
        have hv := hv g8
        refine lv_istore (lv' := [(4, .int (iI x8)), (0, .ref (ad 1)), (2, .int (iI p2)), (3, .int (iI v3))]) hx hb dX12_years_40 hl (by decide) rfl (fun ls hl => ?_)
        refine lv_iload hx hb dX12_years_42 (lv_at hl 0 rfl) ?_
        refine r_iconst hx hb dX12_years_44 ?_
        refine r_icmp_ge (tgt := 59) hx hb dX12_years_45 (by decide) g8 (by decide) (fun b9 => ?_) (fun b9 => ?_)
        · have hv := hv.1 b9
          refine lv_aload_n hx hb dX12_years_59 rfl (lv_at hl 1 rfl) ?_
          refine gf_X12_129 hx hb hC hw 1 (gM_1 τ ad M8) rfl dX12_years_60 ?_
          refine r_top (fun x10 e10 => ?_)
          have g10 : iR x10 := by rw [e10]; exact hM.get (by decide) _
          have hv := hv x10 e10 g10
          refine r_if_le (tgt := 114) hx hb dX12_years_63 (by decide) g10  (fun b11 => ?_) (fun b11 => ?_)
          · have hv := hv.1 b11
            refine r_iinc (v := (v3 + 1)) (lv' := [(3, .int (iI (v3 + 1))), (4, .int (iI x8)), (0, .ref (ad 1)), (2, .int (iI p2))]) hx hb dX12_years_114 hl (k := 3) rfl rfl (by decide) rfl (fun ls hl => ?_)
            refine lv_goto (tgt := 30) hx hb dX12_years_117 (by decide) ?_
            exact ih (v3 + 1) M8 _ _ _ hM hv hw (lv_sub hl [2, 3, 0] rfl)
          · have hv := hv.2 b11
            refine lv_aload_n hx hb dX12_years_66 rfl (lv_at hl 1 rfl) ?_
            refine lv_aload_n hx hb dX12_years_67 rfl (lv_at hl 1 rfl) ?_
            refine gf_X12_129 hx hb hC hw 1 (gM_1 τ ad M8) rfl dX12_years_68 ?_
            refine r_top (fun x12 e12 => ?_)
            have g12 : iR x12 := by rw [e12]; exact hM.get (by decide) _
            have hv := hv x12 e12 g12
            refine k_cVi (wq_M τ ad) hx hb hml hC hLS hA hw hl.1 (mX12_draws l D τ ad sA sV _ x12 g12 M8 hM _ hv) kX12_draws ml_X12_446 rfl (gM_1 τ ad M8) rfl rfl (Nat.le_of_ble_eq_true rfl) (rm_ok (by decide) (by decide)) ⟨Nat.zero_le _, Nat.zero_le _⟩ dX12_years_71 (fun x13 M13 H locs g13 hM hv hw => ?_)
            have hv := hv g13
            refine lv_istore (lv' := [(5, .int (iI x13)), (4, .int (iI x8)), (0, .ref (ad 1)), (2, .int (iI p2)), (3, .int (iI v3))]) hx hb dX12_years_74 hl (by decide) rfl (fun ls hl => ?_)
            refine lv_iload hx hb dX12_years_76 (lv_at hl 1 rfl) ?_
            refine r_iconst hx hb dX12_years_78 ?_
            refine r_icmp_ne (tgt := 96) hx hb dX12_years_79 (by decide) g8 (by decide) (fun b14 => ?_) (fun b14 => ?_)
            · have hv := hv.1 b14
              refine lv_aload_n hx hb dX12_years_96 rfl (lv_at hl 2 rfl) ?_
              refine lv_aload_n hx hb dX12_years_97 rfl (lv_at hl 2 rfl) ?_
              refine gf_X12_34 hx hb hC hw 1 (gM_1 τ ad M13) rfl dX12_years_98 ?_
              refine lv_iload hx hb dX12_years_101 (lv_at hl 0 rfl) ?_
              refine lv_aload_n hx hb dX12_years_103 rfl (lv_at hl 2 rfl) ?_
              refine r_iconst hx hb dX12_years_104 ?_
              refine k_cVi (wq_M τ ad) hx hb hml hC hLS hA hw hl.1 (mX12_draws l D τ ad sA sV _ 5 (by decide) M13 hM _ hv) kX12_draws ml_X12_446 rfl (gM_1 τ ad M13) rfl rfl (Nat.le_of_ble_eq_true rfl) (rm_ok (by decide) (by decide)) ⟨Nat.zero_le _, Nat.zero_le _⟩ dX12_years_105 (fun x15 M15 H locs g15 hM hv hw => ?_)
              have hv := hv g15
              refine r_iconst hx hb dX12_years_108 ?_
              refine r_isub (z := (x15 - 2)) hx hb dX12_years_109 rfl ?_
              obtain ⟨c16, hv⟩ := hv
              refine k_cVi (wq_M τ ad) hx hb hml hC hLS hA hw hl.1 (mX12_pushesOne l D τ ad sA sV _ 6 x13 (x15 - 2) aM_6 g13 c16 M15 hM _ hv) kX12_pushesOne ml_X12_368 rfl (gM_1 τ ad M15) rfl rfl (Nat.le_of_ble_eq_true rfl) (rm_ok (by decide) (by decide)) ⟨Nat.zero_le _, Nat.zero_le _⟩ dX12_years_110 (fun x17 M17 H locs g17 hM hv hw => ?_)
              have hv := hv g17
              refine lv_pop hx hb dX12_years_113 rfl ?_
              refine r_iinc (v := (v3 + 1)) (lv' := [(3, .int (iI (v3 + 1))), (5, .int (iI x13)), (4, .int (iI x8)), (0, .ref (ad 1)), (2, .int (iI p2))]) hx hb dX12_years_114 hl (k := 4) rfl rfl (by decide) rfl (fun ls hl => ?_)
              refine lv_goto (tgt := 30) hx hb dX12_years_117 (by decide) ?_
              exact ih (v3 + 1) M17 _ _ _ hM hv hw (lv_sub hl [3, 4, 0] rfl)
            · have hv := hv.2 b14
              refine lv_aload_n hx hb dX12_years_82 rfl (lv_at hl 2 rfl) ?_
              refine lv_aload_n hx hb dX12_years_83 rfl (lv_at hl 2 rfl) ?_
              refine gf_X12_34 hx hb hC hw 1 (gM_1 τ ad M13) rfl dX12_years_84 ?_
              refine lv_iload hx hb dX12_years_87 (lv_at hl 0 rfl) ?_
              refine k_cVi (wq_M τ ad) hx hb hml hC hLS hA hw hl.1 (mX12_turnsOne l D τ ad sA sV _ 6 x13 aM_6 g13 M13 hM _ hv) kX12_turnsOne ml_X12_362 rfl (gM_1 τ ad M13) rfl rfl (Nat.le_of_ble_eq_true rfl) (rm_ok (by decide) (by decide)) ⟨Nat.zero_le _, Nat.zero_le _⟩ dX12_years_89 (fun x18 M18 H locs g18 hM hv hw => ?_)
              have hv := hv g18
              refine lv_pop hx hb dX12_years_92 rfl ?_
              refine lv_goto (tgt := 114) hx hb dX12_years_93 (by decide) ?_
              refine r_iinc (v := (v3 + 1)) (lv' := [(3, .int (iI (v3 + 1))), (5, .int (iI x13)), (4, .int (iI x8)), (0, .ref (ad 1)), (2, .int (iI p2))]) hx hb dX12_years_114 hl (k := 4) rfl rfl (by decide) rfl (fun ls hl => ?_)
              refine lv_goto (tgt := 30) hx hb dX12_years_117 (by decide) ?_
              exact ih (v3 + 1) M18 _ _ _ hM hv hw (lv_sub hl [3, 4, 0] rfl)
        · have hv := hv.2 b9
          refine lv_aload_n hx hb dX12_years_48 rfl (lv_at hl 1 rfl) ?_
          refine lv_aload_n hx hb dX12_years_49 rfl (lv_at hl 1 rfl) ?_
          refine gf_X12_34 hx hb hC hw 1 (gM_1 τ ad M8) rfl dX12_years_50 ?_
          refine k_cVv (wq_M τ ad) hx hb hml hC hLS hA hw hl.1 (mX12_stepGoes l D τ ad sA sV _ 6 aM_6 M8 hM _ hv) kX12_stepGoes ml_X12_343 rfl (gM_1 τ ad M8) rfl rfl (Nat.le_of_ble_eq_true rfl) (rm_ok (by decide) (by decide)) ⟨Nat.zero_le _, Nat.zero_le _⟩ dX12_years_53 (fun M19 H locs hM hv hw => ?_)
          refine lv_goto (tgt := 114) hx hb dX12_years_56 (by decide) ?_
          refine r_iinc (v := (v3 + 1)) (lv' := [(3, .int (iI (v3 + 1))), (4, .int (iI x8)), (0, .ref (ad 1)), (2, .int (iI p2))]) hx hb dX12_years_114 hl (k := 3) rfl rfl (by decide) rfl (fun ls hl => ?_)
          refine lv_goto (tgt := 30) hx hb dX12_years_117 (by decide) ?_
          exact ih (v3 + 1) M19 _ _ _ hM hv hw (lv_sub hl [2, 3, 0] rfl)
  refine lv_aload_n hx hb dX12_years_0 rfl (lv_at hl 0 rfl) ?_
  refine r_iconst hx hb dX12_years_1 ?_
  obtain ⟨M1, e1⟩ : ∃ M1 : Mem, M1 = up2 M 1 0 0 := ⟨_, rfl⟩
  have hv := hv M1 e1
  refine pf_X12_112 (ws' := (WM τ ad M1)) hx hb hC hw 1 (gM_1 τ ad M) (Nat.le_of_ble_eq_true rfl) (by rw [e1]; exact sM_1_0 τ ad M _) dX12_years_2 (fun H locs hw => ?_)
  have hM : MR M1 := by rw [e1]; exact hM.put (by decide) (by decide)
  refine lv_iload_n hx hb dX12_years_5 rfl (lv_at hl 2 rfl) ?_
  refine r_i2l hx hb dX12_years_6 hp2 ?_
  refine r_lconst (z := 1) hx hb dX12_years_7 (by decide +kernel) ?_
  refine r_ldc2 (z := 60) hx hb hC ct_X12_350 (by decide +kernel) dX12_years_8 ?_
  refine k_cSz (wq_M τ ad) hx hb hml hC hLS hA hw hl.1 (mX12_in l D τ ad sA sV _ p2 1 60 (iR_lR hp2) (by decide) (by decide) M1 hM _ hv) kX12_in ml_X12_125 rfl rfl (Nat.le_of_ble_eq_true rfl) (rm_ok (by decide) (by decide)) ⟨Nat.zero_le _, Nat.zero_le _⟩ dX12_years_11 (fun x2 M2 H locs g2 z2 hM hv hw => ?_)
  have hv := hv g2 z2
  refine r_if_ne (tgt := 19) hx hb dX12_years_14 (by decide) g2  (fun b3 => ?_) (fun b3 => ?_)
  · have hv := hv.1 b3
    refine lv_aload_n hx hb dX12_years_19 rfl (lv_at hl 0 rfl) ?_
    refine lv_iload_n hx hb dX12_years_20 rfl (lv_at hl 1 rfl) ?_
    obtain ⟨M4, e4⟩ : ∃ M4 : Mem, M4 = up2 M2 1 49 p1 := ⟨_, rfl⟩
    have hv := hv M4 e4
    refine pf_X12_442 (ws' := (WM τ ad M4)) hx hb hC hw 1 (gM_1 τ ad M2) (Nat.le_of_ble_eq_true rfl) (by rw [e4]; exact sM_1_49 τ ad M2 _) dX12_years_21 (fun H locs hw => ?_)
    have hM : MR M4 := by rw [e4]; exact hM.put (by decide) hp1
    refine lv_aload_n hx hb dX12_years_24 rfl (lv_at hl 0 rfl) ?_
    refine k_cVv (wq_M τ ad) hx hb hml hC hLS hA hw hl.1 (mX12_copies l D τ ad sA sV _   M4 hM _ hv) kX12_copies ml_X12_390 rfl (gM_1 τ ad M4) rfl rfl (Nat.le_of_ble_eq_true rfl) (rm_ok (by decide) (by decide)) ⟨Nat.zero_le _, Nat.zero_le _⟩ dX12_years_25 (fun M5 H locs hM hv hw => ?_)
    refine r_iconst hx hb dX12_years_28 ?_
    refine lv_istore_n (lv' := [(3, .int (iI 0)), (0, .ref (ad 1)), (1, .int (iI p1)), (2, .int (iI p2))]) hx hb dX12_years_29 rfl hl (by decide) rfl (fun ls hl => ?_)
    obtain ⟨n20, hv⟩ := hv
    refine L30 _ ?_ n20 0 M5 _ _ _ hM hv hw (lv_sub hl [1, 3, 0] rfl)
    · intro  M H locs ls hM hv hw hl
      refine lv_aload_n hx hb dX12_years_120 rfl (lv_at hl 0 rfl) ?_
      refine lv_aload_n hx hb dX12_years_121 rfl (lv_at hl 0 rfl) ?_
      refine gf_X12_34 hx hb hC hw 1 (gM_1 τ ad M) rfl dX12_years_122 ?_
      refine r_iconst hx hb dX12_years_125 ?_
      refine k_cVi (wq_M τ ad) hx hb hml hC hLS hA hw hl.1 (mX12_endedBy l D τ ad sA sV _ 6 1 aM_6 (by decide) M hM _ hv) kX12_endedBy ml_X12_397 rfl (gM_1 τ ad M) rfl rfl (Nat.le_of_ble_eq_true rfl) (rm_ok (by decide) (by decide)) ⟨Nat.zero_le _, Nat.zero_le _⟩ dX12_years_126 (fun x21 M21 H locs g21 hM hv hw => ?_)
      have hv := hv g21
      refine lv_aload_n hx hb dX12_years_129 rfl (lv_at hl 0 rfl) ?_
      refine lv_aload_n hx hb dX12_years_130 rfl (lv_at hl 0 rfl) ?_
      refine gf_X12_34 hx hb hC hw 1 (gM_1 τ ad M21) rfl dX12_years_131 ?_
      refine r_iconst hx hb dX12_years_134 ?_
      refine k_cVi (wq_M τ ad) hx hb hml hC hLS hA hw hl.1 (mX12_endedBy l D τ ad sA sV _ 6 0 aM_6 (by decide) M21 hM _ hv) kX12_endedBy ml_X12_397 rfl (gM_1 τ ad M21) rfl rfl (Nat.le_of_ble_eq_true rfl) (rm_ok (by decide) (by decide)) ⟨Nat.zero_le _, Nat.zero_le _⟩ dX12_years_135 (fun x22 M22 H locs g22 hM hv hw => ?_)
      have hv := hv g22
      refine r_iorF hx hb dX12_years_138 (fun x23 e23 g23 => ?_)
      have hv := hv x23 e23 g23
      refine lv_istore_n (lv' := [(3, .int (iI x23)), (0, .ref (ad 1))]) hx hb dX12_years_139 rfl hl (by decide) rfl (fun ls hl => ?_)
      refine lv_aload_n hx hb dX12_years_140 rfl (lv_at hl 1 rfl) ?_
      refine r_iconst hx hb dX12_years_141 ?_
      obtain ⟨M24, e24⟩ : ∃ M24 : Mem, M24 = up2 M22 1 1 0 := ⟨_, rfl⟩
      have hv := hv M24 e24
      refine pf_X12_119 (ws' := (WM τ ad M24)) hx hb hC hw 1 (gM_1 τ ad M22) (Nat.le_of_ble_eq_true rfl) (by rw [e24]; exact sM_1_1 τ ad M22 _) dX12_years_142 (fun H locs hw => ?_)
      have hM : MR M24 := by rw [e24]; exact hM.put (by decide) (by decide)
      refine lv_aload_n hx hb dX12_years_145 rfl (lv_at hl 1 rfl) ?_
      refine lv_iload_n hx hb dX12_years_146 rfl (lv_at hl 0 rfl) ?_
      refine k_cSi (wq_M τ ad) hx hb hml hC hLS hA hw hl.1 (mJ6_bitCount_0f7a4M l D τ ad sA sV _ x23 g23 M24 hM _ hv) kJ6_bitCount_0f7a4 ml_X12_279 rfl rfl (Nat.le_of_ble_eq_true rfl) (rm_ok (by decide) (by decide)) ⟨Nat.zero_le _, Nat.zero_le _⟩ dX12_years_147 (fun x25 M25 H locs g25 hM hv hw => ?_)
      have hv := hv g25
      refine r_i2l hx hb dX12_years_150 g25 ?_
      refine k_cVv (wq_M τ ad) hx hb hml hC hLS hA hw hl.1 (mX12_enters l D τ ad sA sV _ x25 (iR_lR g25) M25 hM _ hv) kX12_enters ml_X12_358 rfl (gM_1 τ ad M25) rfl rfl (Nat.le_of_ble_eq_true rfl) (rm_ok (by decide) (by decide)) ⟨Nat.zero_le _, Nat.zero_le _⟩ dX12_years_151 (fun M26 H locs hM hv hw => ?_)
      refine lv_aload_n hx hb dX12_years_154 rfl (lv_at hl 1 rfl) ?_
      refine lv_aload_n hx hb dX12_years_155 rfl (lv_at hl 1 rfl) ?_
      refine lv_aload_n hx hb dX12_years_156 rfl (lv_at hl 1 rfl) ?_
      refine gf_X12_34 hx hb hC hw 1 (gM_1 τ ad M26) rfl dX12_years_157 ?_
      refine r_iconst hx hb dX12_years_160 ?_
      refine k_cVi (wq_M τ ad) hx hb hml hC hLS hA hw hl.1 (mX12_endedBy l D τ ad sA sV _ 6 1 aM_6 (by decide) M26 hM _ hv) kX12_endedBy ml_X12_397 rfl (gM_1 τ ad M26) rfl rfl (Nat.le_of_ble_eq_true rfl) (rm_ok (by decide) (by decide)) ⟨Nat.zero_le _, Nat.zero_le _⟩ dX12_years_161 (fun x27 M27 H locs g27 hM hv hw => ?_)
      have hv := hv g27
      refine k_cSi (wq_M τ ad) hx hb hml hC hLS hA hw hl.1 (mJ6_bitCount_0f7a4M l D τ ad sA sV _ x27 g27 M27 hM _ hv) kJ6_bitCount_0f7a4 ml_X12_279 rfl rfl (Nat.le_of_ble_eq_true rfl) (rm_ok (by decide) (by decide)) ⟨Nat.zero_le _, Nat.zero_le _⟩ dX12_years_164 (fun x28 M28 H locs g28 hM hv hw => ?_)
      have hv := hv g28
      refine r_i2l hx hb dX12_years_167 g28 ?_
      refine k_cVv (wq_M τ ad) hx hb hml hC hLS hA hw hl.1 (mX12_enters l D τ ad sA sV _ x28 (iR_lR g28) M28 hM _ hv) kX12_enters ml_X12_358 rfl (gM_1 τ ad M28) rfl rfl (Nat.le_of_ble_eq_true rfl) (rm_ok (by decide) (by decide)) ⟨Nat.zero_le _, Nat.zero_le _⟩ dX12_years_168 (fun M29 H locs hM hv hw => ?_)
      refine lv_aload_n hx hb dX12_years_171 rfl (lv_at hl 1 rfl) ?_
      refine gf_X12_34 hx hb hC hw 1 (gM_1 τ ad M29) rfl dX12_years_172 ?_
      refine r_bipush hx hb dX12_years_175 (by decide +kernel) ?_
      refine r_iald hx hb hC hw 6 (gI_M aM_6 τ ad M29) (by decide) (by decide) (by decide) dX12_years_177 ?_
      refine r_top (fun x30 e30 => ?_)
      have g30 : iR x30 := by rw [e30]; exact hM.get aM_6.pos _
      have hv := hv x30 e30 g30
      exact k_iret (wq_M τ ad) hx hb hr hlk hw hM g30 hv dX12_years_178
  · have hv := hv.2 b3
    refine r_iconst hx hb dX12_years_17 ?_
    exact k_iret (wq_M τ ad) hx hb hr hlk hw hM (by decide) hv dX12_years_18
set_option maxHeartbeats 4000000 in
set_option maxRecDepth 100000 in
theorem mX12_keep (l : Launch) (D : va_G) (τ : Nat → ClassId) (ad : Nat → Nat) (sA sV : Nat → Nat) (sz : Nat) (p1 : Int) (hp1 : iR p1) (M : Mem) (hM : MR M) (Q : Int → Mem → Prop) (hv : qX12_keep p1 M Q) : Met l yX12_keep (lw_w yX12_keep cX12_keep 3 (some .boolean)) (rmk 2 0 0) (kPc D τ sA sV (WM τ ad M) sz [.ref (ad 1), .int (iI p1)]) (gQi D (EQz (WM τ ad) MR Q) (va_A (WM τ ad M) sz)) 0 0 (va_A (WM τ ad M) sz) := by
  refine k_met (ret := (some .boolean)) (Qc := gQi D (EQz (WM τ ad) MR Q)) (by decide +kernel) (Nat.le_of_ble_eq_true rfl) ?_
  intro p e s m args below meth c A ls hx hb hml hr hlk hnm hC hLS hA hw hl
  have hC : cx D τ s m args RX12 := hC
  have hl : lv_has ls 3 [(0, .ref (ad 1)), (1, .int (iI p1))] := hl
  unfold qX12_keep at hv
  have L38 : ∀ (n : Nat) (v2 : Int) (M : Mem) (H : Heap) (locs : List Loc) (ls : Array Slot), MR M → qX12_keep_L38 p1  Q n v2 M → wS D A s.heap (WM τ ad M) H locs → lv_has ls 3 [(0, .ref (ad 1)), (1, .int (iI p1)), (2, .int (iI v2))] → W p l e (rmk 2 0 0) s m args below meth c H locs 0 0 (MQ below (gQi D (EQz (WM τ ad) MR Q) A) args s 0 0 A) (F0 m 38 ls []) := by
    intro n
    induction n with
    | zero => intro v2 M H locs ls hM hv; rw [qX12_keep_L38] at hv; exact hv.elim
    | succ n ih =>
      intro v2 M H locs ls hM hv hw hl
      rw [qX12_keep_L38] at hv
      refine lv_iload_n hx hb dX12_keep_38 rfl (lv_at hl 2 rfl) ?_
      refine r_bipush hx hb dX12_keep_39 (by decide +kernel) ?_
      obtain ⟨c9, hv⟩ := hv
      refine r_icmp_ge (tgt := 67) hx hb dX12_keep_41 (by decide) c9 (by decide) (fun b10 => ?_) (fun b10 => ?_)
      · have hv := hv.1 b10
        refine r_iconst hx hb dX12_keep_67 ?_
        exact k_zret (wq_M τ ad) hx hb hr hlk hw hM (by decide) (by decide) hv dX12_keep_68
      · have hv := hv.2 b10
        refine lv_aload_n hx hb dX12_keep_44 rfl (lv_at hl 0 rfl) ?_
        refine gf_X12_109 hx hb hC hw 1 (gM_1 τ ad M) rfl dX12_keep_45 ?_
        refine r_bipush hx hb dX12_keep_48 (by decide +kernel) ?_
        refine lv_iload_n hx hb dX12_keep_50 rfl (lv_at hl 1 rfl) ?_
        refine r_imul (z := (38 * p1)) hx hb dX12_keep_51 rfl ?_
        refine lv_iload_n hx hb dX12_keep_52 rfl (lv_at hl 2 rfl) ?_
        refine r_iadd (z := ((38 * p1) + v2)) hx hb dX12_keep_53 rfl ?_
        refine lv_aload_n hx hb dX12_keep_54 rfl (lv_at hl 0 rfl) ?_
        refine gf_X12_31 hx hb hC hw 1 (gM_1 τ ad M) rfl dX12_keep_55 ?_
        refine lv_iload_n hx hb dX12_keep_58 rfl (lv_at hl 2 rfl) ?_
        obtain ⟨c11, hv⟩ := hv
        obtain ⟨c12, hv⟩ := hv
        refine r_iald hx hb hC hw 5 (gI_M aM_5 τ ad M) c11 c12 (by decide) dX12_keep_59 ?_
        refine r_top (fun x13 e13 => ?_)
        have g13 : iR x13 := by rw [e13]; exact hM.get aM_5.pos _
        have hv := hv x13 e13 g13
        obtain ⟨c14, hv⟩ := hv
        obtain ⟨c15, hv⟩ := hv
        obtain ⟨M16, e16⟩ : ∃ M16 : Mem, M16 = up2 M 31 ((38 * p1) + v2) x13 := ⟨_, rfl⟩
        have hv := hv M16 e16
        refine r_iast (ws' := (WM τ ad M16)) hx hb hC hw 31 (gI_M aM_31 τ ad M) c14 c15 (by decide) (by rw [e16]; exact sI_M aM_31 τ ad M _ _) dX12_keep_60 (fun H locs hw => ?_)
        have hM : MR M16 := by rw [e16]; exact hM.put aM_31.pos g13
        refine r_iinc (v := (v2 + 1)) (lv' := [(2, .int (iI (v2 + 1))), (0, .ref (ad 1)), (1, .int (iI p1))]) hx hb dX12_keep_61 hl (k := 2) rfl rfl (by decide) rfl (fun ls hl => ?_)
        refine lv_goto (tgt := 38) hx hb dX12_keep_64 (by decide) ?_
        exact ih (v2 + 1) M16 _ _ _ hM hv hw (lv_sub hl [1, 2, 0] rfl)
  refine lv_aload_n hx hb dX12_keep_0 rfl (lv_at hl 0 rfl) ?_
  refine r_iconst hx hb dX12_keep_1 ?_
  obtain ⟨M1, e1⟩ : ∃ M1 : Mem, M1 = up2 M 1 0 0 := ⟨_, rfl⟩
  have hv := hv M1 e1
  refine pf_X12_112 (ws' := (WM τ ad M1)) hx hb hC hw 1 (gM_1 τ ad M) (Nat.le_of_ble_eq_true rfl) (by rw [e1]; exact sM_1_0 τ ad M _) dX12_keep_2 (fun H locs hw => ?_)
  have hM : MR M1 := by rw [e1]; exact hM.put (by decide) (by decide)
  refine lv_iload_n hx hb dX12_keep_5 rfl (lv_at hl 1 rfl) ?_
  refine r_i2l hx hb dX12_keep_6 hp1 ?_
  refine r_lconst (z := 0) hx hb dX12_keep_7 (by decide +kernel) ?_
  refine r_ldc2 (z := 2) hx hb hC ct_X12_449 (by decide +kernel) dX12_keep_8 ?_
  refine k_cSz (wq_M τ ad) hx hb hml hC hLS hA hw hl.1 (mX12_in l D τ ad sA sV _ p1 0 2 (iR_lR hp1) (by decide) (by decide) M1 hM _ hv) kX12_in ml_X12_125 rfl rfl (Nat.le_of_ble_eq_true rfl) (rm_ok (by decide) (by decide)) ⟨Nat.zero_le _, Nat.zero_le _⟩ dX12_keep_11 (fun x2 M2 H locs g2 z2 hM hv hw => ?_)
  have hv := hv g2 z2
  refine r_if_ne (tgt := 19) hx hb dX12_keep_14 (by decide) g2  (fun b3 => ?_) (fun b3 => ?_)
  · have hv := hv.1 b3
    refine lv_aload_n hx hb dX12_keep_19 rfl (lv_at hl 0 rfl) ?_
    refine gf_X12_103 hx hb hC hw 1 (gM_1 τ ad M2) rfl dX12_keep_20 ?_
    refine lv_iload_n hx hb dX12_keep_23 rfl (lv_at hl 1 rfl) ?_
    refine r_iconst hx hb dX12_keep_24 ?_
    obtain ⟨c4, hv⟩ := hv
    obtain ⟨c5, hv⟩ := hv
    obtain ⟨M6, e6⟩ : ∃ M6 : Mem, M6 = up2 M2 29 p1 1 := ⟨_, rfl⟩
    have hv := hv M6 e6
    refine r_zast (ws' := (WM τ ad M6)) hx hb hC hw 29 (gZ_M aM_29 τ ad M2) c4 c5 (by decide) (by decide) (by rw [e6]; exact sZ_M aM_29 τ ad M2 _ _) dX12_keep_25 (fun H locs hw => ?_)
    have hM : MR M6 := by rw [e6]; exact hM.put aM_29.pos (by decide)
    refine lv_aload_n hx hb dX12_keep_26 rfl (lv_at hl 0 rfl) ?_
    refine gf_X12_106 hx hb hC hw 1 (gM_1 τ ad M6) rfl dX12_keep_27 ?_
    refine lv_iload_n hx hb dX12_keep_30 rfl (lv_at hl 1 rfl) ?_
    refine lv_aload_n hx hb dX12_keep_31 rfl (lv_at hl 0 rfl) ?_
    refine gf_X12_211 hx hb hC hw 1 (gM_1 τ ad M6) rfl dX12_keep_32 ?_
    refine r_top (fun x7 e7 => ?_)
    have g7 : iR x7 := by rw [e7]; exact hM.get (by decide) _
    have hv := hv x7 e7 g7
    obtain ⟨M8, e8⟩ : ∃ M8 : Mem, M8 = up2 M6 30 p1 x7 := ⟨_, rfl⟩
    have hv := hv M8 e8
    refine r_iast (ws' := (WM τ ad M8)) hx hb hC hw 30 (gI_M aM_30 τ ad M6) c4 c5 (by decide) (by rw [e8]; exact sI_M aM_30 τ ad M6 _ _) dX12_keep_35 (fun H locs hw => ?_)
    have hM : MR M8 := by rw [e8]; exact hM.put aM_30.pos g7
    refine r_iconst hx hb dX12_keep_36 ?_
    refine lv_istore_n (lv' := [(2, .int (iI 0)), (0, .ref (ad 1)), (1, .int (iI p1))]) hx hb dX12_keep_37 rfl hl (by decide) rfl (fun ls hl => ?_)
    obtain ⟨n17, hv⟩ := hv
    refine L38  n17 0 M8 _ _ _ hM hv hw (lv_sub hl [1, 2, 0] rfl)
  · have hv := hv.2 b3
    refine r_iconst hx hb dX12_keep_17 ?_
    exact k_zret (wq_M τ ad) hx hb hr hlk hw hM (by decide) (by decide) hv dX12_keep_18
set_option maxHeartbeats 4000000 in
set_option maxRecDepth 100000 in
theorem mX12_again (l : Launch) (D : va_G) (τ : Nat → ClassId) (ad : Nat → Nat) (sA sV : Nat → Nat) (sz : Nat) (p1 : Int) (hp1 : iR p1) (M : Mem) (hM : MR M) (Q : Int → Mem → Prop) (hv : qX12_again p1 M Q) : Met l yX12_again (lw_w yX12_again cX12_again 3 (some .boolean)) (rmk 2 0 0) (kPc D τ sA sV (WM τ ad M) sz [.ref (ad 1), .int (iI p1)]) (gQi D (EQz (WM τ ad) MR Q) (va_A (WM τ ad M) sz)) 0 0 (va_A (WM τ ad M) sz) := by
  refine k_met (ret := (some .boolean)) (Qc := gQi D (EQz (WM τ ad) MR Q)) (by decide +kernel) (Nat.le_of_ble_eq_true rfl) ?_
  intro p e s m args below meth c A ls hx hb hml hr hlk hnm hC hLS hA hw hl
  have hC : cx D τ s m args RX12 := hC
  have hl : lv_has ls 3 [(0, .ref (ad 1)), (1, .int (iI p1))] := hl
  unfold qX12_again at hv
  have L43 : ∀ (n : Nat) (v2 : Int) (M : Mem) (H : Heap) (locs : List Loc) (ls : Array Slot), MR M → qX12_again_L43 p1  Q n v2 M → wS D A s.heap (WM τ ad M) H locs → lv_has ls 3 [(0, .ref (ad 1)), (1, .int (iI p1)), (2, .int (iI v2))] → W p l e (rmk 2 0 0) s m args below meth c H locs 0 0 (MQ below (gQi D (EQz (WM τ ad) MR Q) A) args s 0 0 A) (F0 m 43 ls []) := by
    intro n
    induction n with
    | zero => intro v2 M H locs ls hM hv; rw [qX12_again_L43] at hv; exact hv.elim
    | succ n ih =>
      intro v2 M H locs ls hM hv hw hl
      rw [qX12_again_L43] at hv
      refine lv_iload_n hx hb dX12_again_43 rfl (lv_at hl 2 rfl) ?_
      refine r_bipush hx hb dX12_again_44 (by decide +kernel) ?_
      obtain ⟨c11, hv⟩ := hv
      refine r_icmp_ge (tgt := 72) hx hb dX12_again_46 (by decide) c11 (by decide) (fun b12 => ?_) (fun b12 => ?_)
      · have hv := hv.1 b12
        refine lv_aload_n hx hb dX12_again_72 rfl (lv_at hl 0 rfl) ?_
        refine r_iconst hx hb dX12_again_73 ?_
        obtain ⟨M13, e13⟩ : ∃ M13 : Mem, M13 = up2 M 1 28 0 := ⟨_, rfl⟩
        have hv := hv M13 e13
        refine pf_X12_186 (ws' := (WM τ ad M13)) hx hb hC hw 1 (gM_1 τ ad M) (Nat.le_of_ble_eq_true rfl) (by rw [e13]; exact sM_1_28 τ ad M _) dX12_again_74 (fun H locs hw => ?_)
        have hM : MR M13 := by rw [e13]; exact hM.put (by decide) (by decide)
        refine r_iconst hx hb dX12_again_77 ?_
        exact k_zret (wq_M τ ad) hx hb hr hlk hw hM (by decide) (by decide) hv dX12_again_78
      · have hv := hv.2 b12
        refine lv_aload_n hx hb dX12_again_49 rfl (lv_at hl 0 rfl) ?_
        refine gf_X12_31 hx hb hC hw 1 (gM_1 τ ad M) rfl dX12_again_50 ?_
        refine lv_iload_n hx hb dX12_again_53 rfl (lv_at hl 2 rfl) ?_
        refine lv_aload_n hx hb dX12_again_54 rfl (lv_at hl 0 rfl) ?_
        refine gf_X12_109 hx hb hC hw 1 (gM_1 τ ad M) rfl dX12_again_55 ?_
        refine r_bipush hx hb dX12_again_58 (by decide +kernel) ?_
        refine lv_iload_n hx hb dX12_again_60 rfl (lv_at hl 1 rfl) ?_
        refine r_imul (z := (38 * p1)) hx hb dX12_again_61 rfl ?_
        refine lv_iload_n hx hb dX12_again_62 rfl (lv_at hl 2 rfl) ?_
        refine r_iadd (z := ((38 * p1) + v2)) hx hb dX12_again_63 rfl ?_
        obtain ⟨c14, hv⟩ := hv
        obtain ⟨c15, hv⟩ := hv
        refine r_iald hx hb hC hw 31 (gI_M aM_31 τ ad M) c14 c15 (by decide) dX12_again_64 ?_
        refine r_top (fun x16 e16 => ?_)
        have g16 : iR x16 := by rw [e16]; exact hM.get aM_31.pos _
        have hv := hv x16 e16 g16
        obtain ⟨c17, hv⟩ := hv
        obtain ⟨c18, hv⟩ := hv
        obtain ⟨M19, e19⟩ : ∃ M19 : Mem, M19 = up2 M 5 v2 x16 := ⟨_, rfl⟩
        have hv := hv M19 e19
        refine r_iast (ws' := (WM τ ad M19)) hx hb hC hw 5 (gI_M aM_5 τ ad M) c17 c18 (by decide) (by rw [e19]; exact sI_M aM_5 τ ad M _ _) dX12_again_65 (fun H locs hw => ?_)
        have hM : MR M19 := by rw [e19]; exact hM.put aM_5.pos g16
        refine r_iinc (v := (v2 + 1)) (lv' := [(2, .int (iI (v2 + 1))), (0, .ref (ad 1)), (1, .int (iI p1))]) hx hb dX12_again_66 hl (k := 2) rfl rfl (by decide) rfl (fun ls hl => ?_)
        refine lv_goto (tgt := 43) hx hb dX12_again_69 (by decide) ?_
        exact ih (v2 + 1) M19 _ _ _ hM hv hw (lv_sub hl [1, 2, 0] rfl)
  refine lv_aload_n hx hb dX12_again_0 rfl (lv_at hl 0 rfl) ?_
  refine r_iconst hx hb dX12_again_1 ?_
  obtain ⟨M1, e1⟩ : ∃ M1 : Mem, M1 = up2 M 1 0 0 := ⟨_, rfl⟩
  have hv := hv M1 e1
  refine pf_X12_112 (ws' := (WM τ ad M1)) hx hb hC hw 1 (gM_1 τ ad M) (Nat.le_of_ble_eq_true rfl) (by rw [e1]; exact sM_1_0 τ ad M _) dX12_again_2 (fun H locs hw => ?_)
  have hM : MR M1 := by rw [e1]; exact hM.put (by decide) (by decide)
  refine lv_iload_n hx hb dX12_again_5 rfl (lv_at hl 1 rfl) ?_
  refine r_i2l hx hb dX12_again_6 hp1 ?_
  refine r_lconst (z := 0) hx hb dX12_again_7 (by decide +kernel) ?_
  refine r_ldc2 (z := 2) hx hb hC ct_X12_449 (by decide +kernel) dX12_again_8 ?_
  refine k_cSz (wq_M τ ad) hx hb hml hC hLS hA hw hl.1 (mX12_in l D τ ad sA sV _ p1 0 2 (iR_lR hp1) (by decide) (by decide) M1 hM _ hv) kX12_in ml_X12_125 rfl rfl (Nat.le_of_ble_eq_true rfl) (rm_ok (by decide) (by decide)) ⟨Nat.zero_le _, Nat.zero_le _⟩ dX12_again_11 (fun x2 M2 H locs g2 z2 hM hv hw => ?_)
  have hv := hv g2 z2
  refine r_if_eq (tgt := 39) hx hb dX12_again_14 (by decide) g2  (fun b3 => ?_) (fun b3 => ?_)
  · have hv := hv.1 b3
    refine r_iconst hx hb dX12_again_39 ?_
    exact k_zret (wq_M τ ad) hx hb hr hlk hw hM (by decide) (by decide) hv dX12_again_40
  · have hv := hv.2 b3
    refine lv_aload_n hx hb dX12_again_17 rfl (lv_at hl 0 rfl) ?_
    refine gf_X12_103 hx hb hC hw 1 (gM_1 τ ad M2) rfl dX12_again_18 ?_
    refine lv_iload_n hx hb dX12_again_21 rfl (lv_at hl 1 rfl) ?_
    obtain ⟨c4, hv⟩ := hv
    obtain ⟨c5, hv⟩ := hv
    refine r_zald hx hb hC hw 29 (gZ_M aM_29 τ ad M2) c4 c5 (by decide) dX12_again_22 ?_
    refine r_top (fun x6 e6 => ?_)
    have g6 : iR x6 := by rw [e6]; exact hM.get aM_29.pos _
    have hv := hv x6 e6 g6
    refine r_if_eq (tgt := 39) hx hb dX12_again_23 (by decide) g6  (fun b7 => ?_) (fun b7 => ?_)
    · have hv := hv.1 b7
      refine r_iconst hx hb dX12_again_39 ?_
      exact k_zret (wq_M τ ad) hx hb hr hlk hw hM (by decide) (by decide) hv dX12_again_40
    · have hv := hv.2 b7
      refine lv_aload_n hx hb dX12_again_26 rfl (lv_at hl 0 rfl) ?_
      refine gf_X12_106 hx hb hC hw 1 (gM_1 τ ad M2) rfl dX12_again_27 ?_
      refine lv_iload_n hx hb dX12_again_30 rfl (lv_at hl 1 rfl) ?_
      refine r_iald hx hb hC hw 30 (gI_M aM_30 τ ad M2) c4 c5 (by decide) dX12_again_31 ?_
      refine r_top (fun x8 e8 => ?_)
      have g8 : iR x8 := by rw [e8]; exact hM.get aM_30.pos _
      have hv := hv x8 e8 g8
      refine lv_aload_n hx hb dX12_again_32 rfl (lv_at hl 0 rfl) ?_
      refine gf_X12_211 hx hb hC hw 1 (gM_1 τ ad M2) rfl dX12_again_33 ?_
      refine r_top (fun x9 e9 => ?_)
      have g9 : iR x9 := by rw [e9]; exact hM.get (by decide) _
      have hv := hv x9 e9 g9
      refine r_icmp_eq (tgt := 41) hx hb dX12_again_36 (by decide) g8 g9 (fun b10 => ?_) (fun b10 => ?_)
      · have hv := hv.1 b10
        refine r_iconst hx hb dX12_again_41 ?_
        refine lv_istore_n (lv' := [(2, .int (iI 0)), (0, .ref (ad 1)), (1, .int (iI p1))]) hx hb dX12_again_42 rfl hl (by decide) rfl (fun ls hl => ?_)
        obtain ⟨n20, hv⟩ := hv
        refine L43  n20 0 M2 _ _ _ hM hv hw (lv_sub hl [1, 2, 0] rfl)
      · have hv := hv.2 b10
        refine r_iconst hx hb dX12_again_39 ?_
        exact k_zret (wq_M τ ad) hx hb hr hlk hw hM (by decide) (by decide) hv dX12_again_40
set_option maxHeartbeats 4000000 in
set_option maxRecDepth 100000 in
theorem mX12_count (l : Launch) (D : va_G) (τ : Nat → ClassId) (ad : Nat → Nat) (sA sV : Nat → Nat) (sz : Nat) (p1 : Int) (hp1 : iR p1) (M : Mem) (hM : MR M) (Q : Int → Mem → Prop) (hv : qX12_count p1 M Q) : Met l yX12_count (lw_w yX12_count cX12_count 4 (some .int)) (rmk 3 0 0) (kPc D τ sA sV (WM τ ad M) sz [.ref (ad 1), .int (iI p1)]) (gQi D (EQi (WM τ ad) MR Q) (va_A (WM τ ad M) sz)) 0 0 (va_A (WM τ ad M) sz) := by
  refine k_met (ret := (some .int)) (Qc := gQi D (EQi (WM τ ad) MR Q)) (by decide +kernel) (Nat.le_of_ble_eq_true rfl) ?_
  intro p e s m args below meth c A ls hx hb hml hr hlk hnm hC hLS hA hw hl
  have hC : cx D τ s m args RX12 := hC
  have hl : lv_has ls 4 [(0, .ref (ad 1)), (1, .int (iI p1))] := hl
  unfold qX12_count at hv
  have L9 : ∀ (X35 : Int → Mem → Prop), (∀ (v2 : Int) (M : Mem) (H : Heap) (locs : List Loc) (ls : Array Slot), MR M → X35 v2 M → wS D A s.heap (WM τ ad M) H locs → lv_has ls 4 [(0, .ref (ad 1)), (1, .int (iI p1)), (2, .int (iI v2))] → W p l e (rmk 3 0 0) s m args below meth c H locs 0 0 (MQ below (gQi D (EQi (WM τ ad) MR Q) A) args s 0 0 A) (F0 m 35 ls [])) → ∀ (n : Nat) (v2 : Int) (v3 : Int) (M : Mem) (H : Heap) (locs : List Loc) (ls : Array Slot), MR M → qX12_count_L9 p1 X35 Q n v2 v3 M → wS D A s.heap (WM τ ad M) H locs → lv_has ls 4 [(0, .ref (ad 1)), (1, .int (iI p1)), (2, .int (iI v2)), (3, .int (iI v3))] → W p l e (rmk 3 0 0) s m args below meth c H locs 0 0 (MQ below (gQi D (EQi (WM τ ad) MR Q) A) args s 0 0 A) (F0 m 9 ls []) := by
    intro X35 hX35 n
    induction n with
    | zero => intro v2 v3 M H locs ls hM hv; rw [qX12_count_L9] at hv; exact hv.elim
    | succ n ih =>
      intro v2 v3 M H locs ls hM hv hw hl
      rw [qX12_count_L9] at hv
      refine lv_iload_n hx hb dX12_count_9 rfl (lv_at hl 3 rfl) ?_
      refine lv_aload_n hx hb dX12_count_10 rfl (lv_at hl 0 rfl) ?_
      refine gf_X12_13 hx hb hC hw 1 (gM_1 τ ad M) rfl dX12_count_11 ?_
      refine r_top (fun x2 e2 => ?_)
      have g2 : iR x2 := by rw [e2]; exact hM.get (by decide) _
      have hv := hv x2 e2 g2
      obtain ⟨c3, hv⟩ := hv
      refine r_icmp_ge (tgt := 35) hx hb dX12_count_14 (by decide) c3 g2 (fun b4 => ?_) (fun b4 => ?_)
      · have hv := hv.1 b4
        exact hX35 v2 M _ _ _ hM hv hw (lv_sub hl [0, 1, 2] rfl)
      · have hv := hv.2 b4
        refine lv_iload_n hx hb dX12_count_17 rfl (lv_at hl 2 rfl) ?_
        refine lv_aload_n hx hb dX12_count_18 rfl (lv_at hl 0 rfl) ?_
        refine gf_X12_20 hx hb hC hw 1 (gM_1 τ ad M) rfl dX12_count_19 ?_
        refine lv_iload_n hx hb dX12_count_22 rfl (lv_at hl 3 rfl) ?_
        obtain ⟨c5, hv⟩ := hv
        obtain ⟨c6, hv⟩ := hv
        refine r_zald hx hb hC hw 2 (gZ_M aM_2 τ ad M) c5 c6 (by decide) dX12_count_23 ?_
        refine r_top (fun x7 e7 => ?_)
        have g7 : iR x7 := by rw [e7]; exact hM.get aM_2.pos _
        have hv := hv x7 e7 g7
        refine k_cSi (wq_M τ ad) hx hb hml hC hLS hA hw hl.1 (mX12_flag l D τ ad sA sV _ x7 g7 M hM _ hv) kX12_flag ml_X12_154 rfl rfl (Nat.le_of_ble_eq_true rfl) (rm_ok (by decide) (by decide)) ⟨Nat.zero_le _, Nat.zero_le _⟩ dX12_count_24 (fun x8 M8 H locs g8 hM hv hw => ?_)
        have hv := hv g8
        refine r_iadd (z := (v2 + x8)) hx hb dX12_count_27 rfl ?_
        refine lv_istore_n (lv' := [(2, .int (iI (v2 + x8))), (0, .ref (ad 1)), (1, .int (iI p1)), (3, .int (iI v3))]) hx hb dX12_count_28 rfl hl (by decide) rfl (fun ls hl => ?_)
        refine r_iinc (v := (v3 + 1)) (lv' := [(3, .int (iI (v3 + 1))), (2, .int (iI (v2 + x8))), (0, .ref (ad 1)), (1, .int (iI p1))]) hx hb dX12_count_29 hl (k := 3) rfl rfl (by decide) rfl (fun ls hl => ?_)
        refine lv_goto (tgt := 9) hx hb dX12_count_32 (by decide) ?_
        exact ih (v2 + x8) (v3 + 1) M8 _ _ _ hM hv hw (lv_sub hl [2, 3, 1, 0] rfl)
  refine lv_aload_n hx hb dX12_count_0 rfl (lv_at hl 0 rfl) ?_
  refine r_iconst hx hb dX12_count_1 ?_
  obtain ⟨M1, e1⟩ : ∃ M1 : Mem, M1 = up2 M 1 0 0 := ⟨_, rfl⟩
  have hv := hv M1 e1
  refine pf_X12_112 (ws' := (WM τ ad M1)) hx hb hC hw 1 (gM_1 τ ad M) (Nat.le_of_ble_eq_true rfl) (by rw [e1]; exact sM_1_0 τ ad M _) dX12_count_2 (fun H locs hw => ?_)
  have hM : MR M1 := by rw [e1]; exact hM.put (by decide) (by decide)
  refine r_iconst hx hb dX12_count_5 ?_
  refine lv_istore_n (lv' := [(2, .int (iI 0)), (0, .ref (ad 1)), (1, .int (iI p1))]) hx hb dX12_count_6 rfl hl (by decide) rfl (fun ls hl => ?_)
  refine r_iconst hx hb dX12_count_7 ?_
  refine lv_istore_n (lv' := [(3, .int (iI 0)), (2, .int (iI 0)), (0, .ref (ad 1)), (1, .int (iI p1))]) hx hb dX12_count_8 rfl hl (by decide) rfl (fun ls hl => ?_)
  obtain ⟨n9, hv⟩ := hv
  refine L9 _ ?_ n9 0 0 M1 _ _ _ hM hv hw (lv_sub hl [2, 3, 1, 0] rfl)
  · intro v2 M H locs ls hM hv hw hl
    refine lv_iload_n hx hb dX12_count_35 rfl (lv_at hl 1 rfl) ?_
    rcases (show p1 = 0 ∨ p1 = 1 ∨ p1 = 2 ∨ p1 = 3 ∨ p1 = 4 ∨ p1 = 5 ∨ p1 = 6 ∨ p1 = 7 ∨ p1 = 8 ∨ p1 = 9 ∨ p1 = 10 ∨ p1 = 11 ∨ p1 = 12 ∨ (p1 < 0 ∨ 12 < p1) by omega) with b10 | b10 | b10 | b10 | b10 | b10 | b10 | b10 | b10 | b10 | b10 | b10 | b10 | b10
    · refine r_tblI (tgt := 104) hx hb dX12_count_36 hp1 (by omega) (by omega) (by rw [b10]; first | done | rfl) (by decide) ?_
      have hv := hv.1 b10
      refine lv_aload_n hx hb dX12_count_104 rfl (lv_at hl 0 rfl) ?_
      refine gf_X12_13 hx hb hC hw 1 (gM_1 τ ad M) rfl dX12_count_105 ?_
      refine r_top (fun x11 e11 => ?_)
      have g11 : iR x11 := by rw [e11]; exact hM.get (by decide) _
      have hv := hv x11 e11 g11
      exact k_iret (wq_M τ ad) hx hb hr hlk hw hM g11 hv dX12_count_108
    · refine r_tblI (tgt := 109) hx hb dX12_count_36 hp1 (by omega) (by omega) (by rw [b10]; first | done | rfl) (by decide) ?_
      have hv := hv.2.1 b10
      refine lv_aload_n hx hb dX12_count_109 rfl (lv_at hl 0 rfl) ?_
      refine gf_X12_122 hx hb hC hw 1 (gM_1 τ ad M) rfl dX12_count_110 ?_
      refine r_top (fun x12 e12 => ?_)
      have g12 : iR x12 := by rw [e12]; exact hM.get (by decide) _
      have hv := hv x12 e12 g12
      exact k_iret (wq_M τ ad) hx hb hr hlk hw hM g12 hv dX12_count_113
    · refine r_tblI (tgt := 114) hx hb dX12_count_36 hp1 (by omega) (by omega) (by rw [b10]; first | done | rfl) (by decide) ?_
      have hv := hv.2.2.1 b10
      refine lv_aload_n hx hb dX12_count_114 rfl (lv_at hl 0 rfl) ?_
      refine gf_X12_129 hx hb hC hw 1 (gM_1 τ ad M) rfl dX12_count_115 ?_
      refine r_top (fun x13 e13 => ?_)
      have g13 : iR x13 := by rw [e13]; exact hM.get (by decide) _
      have hv := hv x13 e13 g13
      exact k_iret (wq_M τ ad) hx hb hr hlk hw hM g13 hv dX12_count_118
    · refine r_tblI (tgt := 119) hx hb dX12_count_36 hp1 (by omega) (by omega) (by rw [b10]; first | done | rfl) (by decide) ?_
      have hv := hv.2.2.2.1 b10
      refine lv_aload_n hx hb dX12_count_119 rfl (lv_at hl 0 rfl) ?_
      refine gf_X12_31 hx hb hC hw 1 (gM_1 τ ad M) rfl dX12_count_120 ?_
      refine r_bipush hx hb dX12_count_123 (by decide +kernel) ?_
      refine r_iald hx hb hC hw 5 (gI_M aM_5 τ ad M) (by decide) (by decide) (by decide) dX12_count_125 ?_
      refine r_top (fun x14 e14 => ?_)
      have g14 : iR x14 := by rw [e14]; exact hM.get aM_5.pos _
      have hv := hv x14 e14 g14
      exact k_iret (wq_M τ ad) hx hb hr hlk hw hM g14 hv dX12_count_126
    · refine r_tblI (tgt := 127) hx hb dX12_count_36 hp1 (by omega) (by omega) (by rw [b10]; first | done | rfl) (by decide) ?_
      have hv := hv.2.2.2.2.1 b10
      refine lv_aload_n hx hb dX12_count_127 rfl (lv_at hl 0 rfl) ?_
      refine gf_X12_31 hx hb hC hw 1 (gM_1 τ ad M) rfl dX12_count_128 ?_
      refine r_bipush hx hb dX12_count_131 (by decide +kernel) ?_
      refine r_iald hx hb hC hw 5 (gI_M aM_5 τ ad M) (by decide) (by decide) (by decide) dX12_count_133 ?_
      refine r_top (fun x15 e15 => ?_)
      have g15 : iR x15 := by rw [e15]; exact hM.get aM_5.pos _
      have hv := hv x15 e15 g15
      exact k_iret (wq_M τ ad) hx hb hr hlk hw hM g15 hv dX12_count_134
    · refine r_tblI (tgt := 135) hx hb dX12_count_36 hp1 (by omega) (by omega) (by rw [b10]; first | done | rfl) (by decide) ?_
      have hv := hv.2.2.2.2.2.1 b10
      refine lv_aload_n hx hb dX12_count_135 rfl (lv_at hl 0 rfl) ?_
      refine lv_aload_n hx hb dX12_count_136 rfl (lv_at hl 0 rfl) ?_
      refine gf_X12_31 hx hb hC hw 1 (gM_1 τ ad M) rfl dX12_count_137 ?_
      refine r_iconst hx hb dX12_count_140 ?_
      refine k_cVi (wq_M τ ad) hx hb hml hC hLS hA hw hl.1 (mX12_endedBy l D τ ad sA sV _ 5 1 aM_5 (by decide) M hM _ hv) kX12_endedBy ml_X12_397 rfl (gM_1 τ ad M) rfl rfl (Nat.le_of_ble_eq_true rfl) (rm_ok (by decide) (by decide)) ⟨Nat.zero_le _, Nat.zero_le _⟩ dX12_count_141 (fun x16 M16 H locs g16 hM hv hw => ?_)
      have hv := hv g16
      refine lv_aload_n hx hb dX12_count_144 rfl (lv_at hl 0 rfl) ?_
      refine lv_aload_n hx hb dX12_count_145 rfl (lv_at hl 0 rfl) ?_
      refine gf_X12_31 hx hb hC hw 1 (gM_1 τ ad M16) rfl dX12_count_146 ?_
      refine r_iconst hx hb dX12_count_149 ?_
      refine k_cVi (wq_M τ ad) hx hb hml hC hLS hA hw hl.1 (mX12_endedBy l D τ ad sA sV _ 5 0 aM_5 (by decide) M16 hM _ hv) kX12_endedBy ml_X12_397 rfl (gM_1 τ ad M16) rfl rfl (Nat.le_of_ble_eq_true rfl) (rm_ok (by decide) (by decide)) ⟨Nat.zero_le _, Nat.zero_le _⟩ dX12_count_150 (fun x17 M17 H locs g17 hM hv hw => ?_)
      have hv := hv g17
      refine r_iorF hx hb dX12_count_153 (fun x18 e18 g18 => ?_)
      have hv := hv x18 e18 g18
      refine k_cSi (wq_M τ ad) hx hb hml hC hLS hA hw hl.1 (mJ6_bitCount_0f7a4M l D τ ad sA sV _ x18 g18 M17 hM _ hv) kJ6_bitCount_0f7a4 ml_X12_279 rfl rfl (Nat.le_of_ble_eq_true rfl) (rm_ok (by decide) (by decide)) ⟨Nat.zero_le _, Nat.zero_le _⟩ dX12_count_154 (fun x19 M19 H locs g19 hM hv hw => ?_)
      have hv := hv g19
      exact k_iret (wq_M τ ad) hx hb hr hlk hw hM g19 hv dX12_count_157
    · refine r_tblI (tgt := 158) hx hb dX12_count_36 hp1 (by omega) (by omega) (by rw [b10]; first | done | rfl) (by decide) ?_
      have hv := hv.2.2.2.2.2.2.1 b10
      refine lv_aload_n hx hb dX12_count_158 rfl (lv_at hl 0 rfl) ?_
      refine lv_aload_n hx hb dX12_count_159 rfl (lv_at hl 0 rfl) ?_
      refine gf_X12_31 hx hb hC hw 1 (gM_1 τ ad M) rfl dX12_count_160 ?_
      refine r_iconst hx hb dX12_count_163 ?_
      refine k_cVi (wq_M τ ad) hx hb hml hC hLS hA hw hl.1 (mX12_endedBy l D τ ad sA sV _ 5 1 aM_5 (by decide) M hM _ hv) kX12_endedBy ml_X12_397 rfl (gM_1 τ ad M) rfl rfl (Nat.le_of_ble_eq_true rfl) (rm_ok (by decide) (by decide)) ⟨Nat.zero_le _, Nat.zero_le _⟩ dX12_count_164 (fun x20 M20 H locs g20 hM hv hw => ?_)
      have hv := hv g20
      refine k_cSi (wq_M τ ad) hx hb hml hC hLS hA hw hl.1 (mJ6_bitCount_0f7a4M l D τ ad sA sV _ x20 g20 M20 hM _ hv) kJ6_bitCount_0f7a4 ml_X12_279 rfl rfl (Nat.le_of_ble_eq_true rfl) (rm_ok (by decide) (by decide)) ⟨Nat.zero_le _, Nat.zero_le _⟩ dX12_count_167 (fun x21 M21 H locs g21 hM hv hw => ?_)
      have hv := hv g21
      exact k_iret (wq_M τ ad) hx hb hr hlk hw hM g21 hv dX12_count_170
    · refine r_tblI (tgt := 171) hx hb dX12_count_36 hp1 (by omega) (by omega) (by rw [b10]; first | done | rfl) (by decide) ?_
      have hv := hv.2.2.2.2.2.2.2.1 b10
      refine lv_iload_n hx hb dX12_count_171 rfl (lv_at hl 2 rfl) ?_
      obtain ⟨c22, hv⟩ := hv
      exact k_iret (wq_M τ ad) hx hb hr hlk hw hM c22 hv dX12_count_172
    · refine r_tblI (tgt := 173) hx hb dX12_count_36 hp1 (by omega) (by omega) (by rw [b10]; first | done | rfl) (by decide) ?_
      have hv := hv.2.2.2.2.2.2.2.2.1 b10
      refine lv_aload_n hx hb dX12_count_173 rfl (lv_at hl 0 rfl) ?_
      refine lv_aload_n hx hb dX12_count_174 rfl (lv_at hl 0 rfl) ?_
      refine gf_X12_31 hx hb hC hw 1 (gM_1 τ ad M) rfl dX12_count_175 ?_
      refine r_bipush hx hb dX12_count_178 (by decide +kernel) ?_
      refine r_iald hx hb hC hw 5 (gI_M aM_5 τ ad M) (by decide) (by decide) (by decide) dX12_count_180 ?_
      refine r_top (fun x23 e23 => ?_)
      have g23 : iR x23 := by rw [e23]; exact hM.get aM_5.pos _
      have hv := hv x23 e23 g23
      refine k_cVi (wq_M τ ad) hx hb hml hC hLS hA hw hl.1 (mX12_weatherOn l D τ ad sA sV _ x23 g23 M hM _ hv) kX12_weatherOn ml_X12_272 rfl (gM_1 τ ad M) rfl rfl (Nat.le_of_ble_eq_true rfl) (rm_ok (by decide) (by decide)) ⟨Nat.zero_le _, Nat.zero_le _⟩ dX12_count_181 (fun x24 M24 H locs g24 hM hv hw => ?_)
      have hv := hv g24
      exact k_iret (wq_M τ ad) hx hb hr hlk hw hM g24 hv dX12_count_184
    · refine r_tblI (tgt := 185) hx hb dX12_count_36 hp1 (by omega) (by omega) (by rw [b10]; first | done | rfl) (by decide) ?_
      have hv := hv.2.2.2.2.2.2.2.2.2.1 b10
      refine lv_aload_n hx hb dX12_count_185 rfl (lv_at hl 0 rfl) ?_
      refine gf_X12_423 hx hb hC hw 1 (gM_1 τ ad M) rfl dX12_count_186 ?_
      refine r_top (fun x25 e25 => ?_)
      have g25 : iR x25 := by rw [e25]; exact hM.get (by decide) _
      have hv := hv x25 e25 g25
      exact k_iret (wq_M τ ad) hx hb hr hlk hw hM g25 hv dX12_count_189
    · refine r_tblI (tgt := 190) hx hb dX12_count_36 hp1 (by omega) (by omega) (by rw [b10]; first | done | rfl) (by decide) ?_
      have hv := hv.2.2.2.2.2.2.2.2.2.2.1 b10
      refine lv_aload_n hx hb dX12_count_190 rfl (lv_at hl 0 rfl) ?_
      refine gf_X12_186 hx hb hC hw 1 (gM_1 τ ad M) rfl dX12_count_191 ?_
      refine r_top (fun x26 e26 => ?_)
      have g26 : iR x26 := by rw [e26]; exact hM.get (by decide) _
      have hv := hv x26 e26 g26
      exact k_iret (wq_M τ ad) hx hb hr hlk hw hM g26 hv dX12_count_194
    · refine r_tblI (tgt := 195) hx hb dX12_count_36 hp1 (by omega) (by omega) (by rw [b10]; first | done | rfl) (by decide) ?_
      have hv := hv.2.2.2.2.2.2.2.2.2.2.2.1 b10
      refine lv_aload_n hx hb dX12_count_195 rfl (lv_at hl 0 rfl) ?_
      refine gf_X12_119 hx hb hC hw 1 (gM_1 τ ad M) rfl dX12_count_196 ?_
      refine r_top (fun x27 e27 => ?_)
      have g27 : iR x27 := by rw [e27]; exact hM.get (by decide) _
      have hv := hv x27 e27 g27
      exact k_iret (wq_M τ ad) hx hb hr hlk hw hM g27 hv dX12_count_199
    · refine r_tblI (tgt := 200) hx hb dX12_count_36 hp1 (by omega) (by omega) (by rw [b10]; first | done | rfl) (by decide) ?_
      have hv := hv.2.2.2.2.2.2.2.2.2.2.2.2.1 b10
      refine lv_aload_n hx hb dX12_count_200 rfl (lv_at hl 0 rfl) ?_
      refine gf_X12_136 hx hb hC hw 1 (gM_1 τ ad M) rfl dX12_count_201 ?_
      refine r_top (fun x28 e28 => ?_)
      have g28 : iR x28 := by rw [e28]; exact hM.get (by decide) _
      have hv := hv x28 e28 g28
      exact k_iret (wq_M τ ad) hx hb hr hlk hw hM g28 hv dX12_count_204
    · refine r_tblO (tgt := 205) hx hb dX12_count_36 hp1 b10 (by decide) ?_
      have hv := hv.2.2.2.2.2.2.2.2.2.2.2.2.2 b10
      refine r_bipush hx hb dX12_count_205 (by decide +kernel) ?_
      exact k_iret (wq_M τ ad) hx hb hr hlk hw hM (by decide) hv dX12_count_207
set_option maxHeartbeats 4000000 in
set_option maxRecDepth 100000 in
theorem mX12_row (l : Launch) (D : va_G) (τ : Nat → ClassId) (ad : Nat → Nat) (sA sV : Nat → Nat) (sz : Nat) (p1 : Int) (hp1 : iR p1) (M : Mem) (hM : MR M) (Q : Int → Mem → Prop) (hv : qX12_row p1 M Q) : Met l yX12_row (lw_w yX12_row cX12_row 2 (some .long)) (rmk 2 0 0) (kPc D τ sA sV (WM τ ad M) sz [.ref (ad 1), .int (iI p1)]) (gQl D (EQi (WM τ ad) MR Q) (va_A (WM τ ad M) sz)) 0 0 (va_A (WM τ ad M) sz) := by
  refine k_met (ret := (some .long)) (Qc := gQl D (EQi (WM τ ad) MR Q)) (by decide +kernel) (Nat.le_of_ble_eq_true rfl) ?_
  intro p e s m args below meth c A ls hx hb hml hr hlk hnm hC hLS hA hw hl
  have hC : cx D τ s m args RX12 := hC
  have hl : lv_has ls 2 [(0, .ref (ad 1)), (1, .int (iI p1))] := hl
  unfold qX12_row at hv
  refine lv_aload_n hx hb dX12_row_0 rfl (lv_at hl 0 rfl) ?_
  refine r_iconst hx hb dX12_row_1 ?_
  obtain ⟨M1, e1⟩ : ∃ M1 : Mem, M1 = up2 M 1 0 0 := ⟨_, rfl⟩
  have hv := hv M1 e1
  refine pf_X12_112 (ws' := (WM τ ad M1)) hx hb hC hw 1 (gM_1 τ ad M) (Nat.le_of_ble_eq_true rfl) (by rw [e1]; exact sM_1_0 τ ad M _) dX12_row_2 (fun H locs hw => ?_)
  have hM : MR M1 := by rw [e1]; exact hM.put (by decide) (by decide)
  refine lv_iload_n hx hb dX12_row_5 rfl (lv_at hl 1 rfl) ?_
  refine r_i2l hx hb dX12_row_6 hp1 ?_
  refine r_lconst (z := 0) hx hb dX12_row_7 (by decide +kernel) ?_
  refine lv_aload_n hx hb dX12_row_8 rfl (lv_at hl 0 rfl) ?_
  refine gf_X12_119 hx hb hC hw 1 (gM_1 τ ad M1) rfl dX12_row_9 ?_
  refine r_top (fun x2 e2 => ?_)
  have g2 : iR x2 := by rw [e2]; exact hM.get (by decide) _
  have hv := hv x2 e2 g2
  refine r_iconst hx hb dX12_row_12 ?_
  refine r_isub (z := (x2 - 1)) hx hb dX12_row_13 rfl ?_
  obtain ⟨c3, hv⟩ := hv
  refine r_i2l hx hb dX12_row_14 c3 ?_
  refine k_cSz (wq_M τ ad) hx hb hml hC hLS hA hw hl.1 (mX12_in l D τ ad sA sV _ p1 0 (x2 - 1) (iR_lR hp1) (by decide) (iR_lR c3) M1 hM _ hv) kX12_in ml_X12_125 rfl rfl (Nat.le_of_ble_eq_true rfl) (rm_ok (by decide) (by decide)) ⟨Nat.zero_le _, Nat.zero_le _⟩ dX12_row_15 (fun x4 M4 H locs g4 z4 hM hv hw => ?_)
  have hv := hv g4 z4
  refine r_if_ne (tgt := 28) hx hb dX12_row_18 (by decide) g4  (fun b5 => ?_) (fun b5 => ?_)
  · have hv := hv.1 b5
    refine lv_aload_n hx hb dX12_row_28 rfl (lv_at hl 0 rfl) ?_
    refine gf_X12_9 hx hb hC hw 1 (gM_1 τ ad M4) rfl dX12_row_29 ?_
    refine lv_iload_n hx hb dX12_row_32 rfl (lv_at hl 1 rfl) ?_
    obtain ⟨c6, hv⟩ := hv
    obtain ⟨c7, hv⟩ := hv
    refine r_lald hx hb hC hw 0 (gJ_M aM_0 τ ad M4) c6 c7 (by decide) dX12_row_33 ?_
    refine r_topL (fun x8 e8 => ?_)
    have g8 : lR x8 := by rw [e8]; exact hM.getL _
    have hv := hv x8 e8 g8
    exact k_lret (wq_M τ ad) hx hb hr hlk hw hM g8 hv dX12_row_34
  · have hv := hv.2 b5
    refine lv_aload_n hx hb dX12_row_21 rfl (lv_at hl 0 rfl) ?_
    refine r_iconst hx hb dX12_row_22 ?_
    obtain ⟨M9, e9⟩ : ∃ M9 : Mem, M9 = up2 M4 1 0 1 := ⟨_, rfl⟩
    have hv := hv M9 e9
    refine pf_X12_112 (ws' := (WM τ ad M9)) hx hb hC hw 1 (gM_1 τ ad M4) (Nat.le_of_ble_eq_true rfl) (by rw [e9]; exact sM_1_0 τ ad M4 _) dX12_row_23 (fun H locs hw => ?_)
    have hM : MR M9 := by rw [e9]; exact hM.put (by decide) (by decide)
    refine r_lconst (z := 0) hx hb dX12_row_26 (by decide +kernel) ?_
    exact k_lret (wq_M τ ad) hx hb hr hlk hw hM (by decide) hv dX12_row_27
end
section
/-! the throw of a NoSuchElementException with a text: its own constructor calls its superclass's by place 13 of its pool (the kit's row of a throw asks for place 7). The walk follows the library's of such a throw, with that one link another. -/
abbrev xN : String := "java/util/NoSuchElementException"
def xTail : List Cond := (Bundle.ownAtoms RX11 227 xN ["java/lang/RuntimeException", "java/lang/Exception"]).filter (fun w => !decide (w ∈ Bundle.chainSAtoms xN ["java/lang/RuntimeException", "java/lang/Exception"]))
def xA : List Cond := ((((Bundle.throwableAtoms ++ Bundle.throwableSAtoms) ++ Bundle.passSAtoms xN "java/lang/RuntimeException" 13 prog_32_method_4_code) ++ Bundle.chainSAtoms "java/lang/RuntimeException" ["java/lang/Exception"]) ++ xTail)
theorem xfit : xN ≠ "java/lang/invoke/MethodHandle" ∧ xN ≠ "java/lang/invoke/VarHandle" := by decide +kernel
theorem x_tl {w : Cond} (i : Nat) (h : (Bundle.ownAtoms RX11 227 xN ["java/lang/RuntimeException", "java/lang/Exception"])[i]? = some w) (hn : decide (w ∈ Bundle.chainSAtoms xN ["java/lang/RuntimeException", "java/lang/Exception"]) = false) : w ∈ xA := by
  unfold xA
  refine List.mem_append_right _ ?_
  unfold xTail
  refine List.mem_filter.mpr ⟨List.mem_of_getElem? h, ?_⟩
  show (!decide (w ∈ Bundle.chainSAtoms xN ["java/lang/RuntimeException", "java/lang/Exception"])) = true
  rw [hn]
  rfl
section XC
variable {p : Program} {l : Launch} {e : Env} {R : Room} {s : State} {m₀ : MethodId} {args : Array Value} {below : List Frame} {meth : Method} {c : Code} {W : State} {locs : List Loc} {cells slots : Nat}
set_option maxHeartbeats 4000000 in
set_option maxRecDepth 100000 in
theorem x_ctor (X : Stand p l e R s m₀ args below meth c W locs cells slots) (hexec : p.tables.exec = Jvm.exec) (htr : e.platform.stackTraces = false)
    (hown : s.vm.findClass RX11 = some m₀.cls) (h : ∀ a ∈ xA, a.before args s = true)
    (hlocs : ∀ x ∈ locs, ∀ cell, s.heap[x.base]? = some cell → cell.vm.isStatics = false)
    {a : Addr} {cX : ClassId} {kX : Class} (hfoundX : s.vm.findClass xN = some cX) (hkX : s.vm.classes[cX]? = some kX) (hcell : W.heap[a]? = some (freshCell cX kX)) (hnew : s.heap.size ≤ a)
    {msg : Value} (hmsg : msg.isRef = true)
    {g : JFrame} (hg : g.method = m₀) (hsize : g.locals.size = c.maxLocals) (hlocked : g.locked = none) (hentered : g.entered = []) {rest : List Value} (hstack : g.stack = msg :: .ref a :: .ref a :: rest)
    (hd6 : decode c.code g.pc = .ok (.invokespecial 227, 3)) (hd9 : decode c.code (g.pc + 3) = .ok (.athrow, 1)) (hout : ∀ x ∈ c.exceptionTable.toList, covers x (g.pc + 3) = false)
    (hRframes : 2 + 3 < R.frames) (hRlocals : 2 * g.monitorRoom + ((Value.ref a :: rest).map fun v => v.category).sum + (13 * (2 + 1) + 42) ≤ R.locals) (hlocks : meth.locks = false) :
    ∃ U : State, Steps p.tables e below (W.setTop g) U ∧ U.status = .running ∧ Ended U below (.threw a) ∧ s.WarmedH U.vm ∧ s.sameButNew ({ U with vm := s.vm } : State) locs cells slots ∧
      ∃ ce : Cell, U.heap[a]? = some ce ∧ ce.vm = .none ∧ s.vm.findClass xN = some ce.cls := by
  have howns : e.platform.frameOwnsMonitors = true := by rw [X.admits.platform]
  have hfin : e.platform.finalization = false := by rw [X.admits.platform]
  have hpl : e.platform.magicAccessors = ({} : Platform).magicAccessors := by rw [X.admits.platform]
  have a' : ∀ x, x ∈ xA → x.holds args s none s [] = true := fun x hx => h x hx
  obtain ⟨T, Z0, L, -, Y⟩ := ThrowableC.of_atoms (args := args) howns hfin hpl (fun x hx => h x (List.mem_append_left _ (List.mem_append_left _ (List.mem_append_left _ (List.mem_append_left _ hx)))))
  obtain ⟨Z, M, LZ, LM, hnZ⟩ := Init0T.ofS_atoms (args := args) hpl L Y (fun x hx => h x (List.mem_append_left _ (List.mem_append_left _ (List.mem_append_left _ (List.mem_append_right _ hx)))))
  obtain ⟨P2, Ps2, hlen2, L2, hL2, hP2m, hlink2, hlinks2⟩ := Bundle.chainS (args := args) hpl hnZ ["java/lang/Exception"] "java/lang/RuntimeException" (by decide +kernel) (by decide +kernel) (fun x hx => h x (List.mem_append_left _ (List.mem_append_right _ hx)))
  obtain ⟨P1, L1, hP1m, hs1⟩ := PassC.ofS_atoms (args := args) (s := s) hpl (X := xN) (Y := "java/lang/RuntimeException") (index := 13) (bytes := prog_32_method_4_code) (by decide +kernel) (by decide +kernel) (by decide +kernel) (by decide +kernel) (by decide +kernel) (by decide +kernel) (fun x hx => h x (List.mem_append_left _ (List.mem_append_left _ (List.mem_append_right _ hx))))
  have hlink1 : P1.sup = firstOf (Z.m T.toThrowableT) ((P2 :: Ps2).map (·.toPassT)) := Option.some.inj (hs1.symm.trans hP2m)
  have hlink : PassesOn (Z.m T.toThrowableT) ((P2 :: Ps2).map (·.toPassT)) := ⟨hlink2, hlinks2⟩
  have hlen : (P2 :: Ps2).length = 2 := by simp [hlen2]
  have hL : ∀ P, P ∈ P2 :: Ps2 → P.LinksS e.platform s := fun P hP => by
    rcases List.mem_cons.mp hP with rfl | hP
    · exact L2
    · exact hL2 P hP
  have hfound : s.vm.findClass xN = some P1.m.cls := findClass_of_methodNamed hP1m
  cases Option.some.inj (hfoundX.symm.trans hfound)
  obtain ⟨c1, kX', hc1, hk, hord, -, -, hn6⟩ := Cond.instantiable_spec (a' (.instantiable xN 6) (x_tl 44 rfl (by decide +kernel)))
  cases Option.some.inj (hc1.symm.trans hfound)
  cases Option.some.inj (hkX.symm.trans hk)
  have hsel0 : selectMethod e.platform s.vm P1.m.cls T.fill0 = .method T.fill0 := by
    obtain ⟨c2, r2, m2, q1, q2, q3, q4, -⟩ := Cond.selects_spec (a' (.selects xN Bundle.tFill0 Bundle.tFill0) (x_tl 46 rfl (by decide +kernel)))
    cases Option.some.inj (q1.symm.trans hfound)
    cases Option.some.inj (q2.symm.trans (State.methodFound?_of_named Y.fill0 (by decide)))
    cases Option.some.inj (q3.symm.trans Y.fill0)
    rw [Launch.admits_selectMethod X.admits]; exact q4
  have hselF : selectMethod e.platform s.vm P1.m.cls T.fill = .method T.fill := by
    obtain ⟨c2, r2, m2, q1, q2, q3, q4, -⟩ := Cond.selects_spec (a' (.selects xN Bundle.tFill Bundle.tFill) (x_tl 47 rfl (by decide +kernel)))
    cases Option.some.inj (q1.symm.trans hfound)
    cases Option.some.inj (q2.symm.trans (State.methodFound?_of_named Y.fill (by decide)))
    cases Option.some.inj (q3.symm.trans Y.fill)
    rw [Launch.admits_selectMethod X.admits]; exact q4
  obtain ⟨cellS0, hcS0, hiss⟩ := Y.statics
  obtain ⟨u0, hu0⟩ := Cond.staticRefV Y.unassigned L.unassignedStatic L.statics hcS0 hiss (a' (.isRef (.static Bundle.tN "UNASSIGNED_STACK" Bundle.steD)) (x_tl 52 rfl (by decide +kernel)))
  obtain ⟨sen, hsen⟩ := Cond.staticRefV Y.sentinel L.sentinelStatic L.statics hcS0 hiss (a' (.isRef (.static Bundle.tN "SUPPRESSED_SENTINEL" Bundle.listD)) (x_tl 53 rfl (by decide +kernel)))
  obtain ⟨ci198, i198, fB, hk198, hg198, ha198, hsB, -, hnB, htB, hffB⟩ := Cond.ownField (t := .object "java/lang/Object") Y.found L.cls (by decide +kernel) (a' (.fieldLink Bundle.tN 198 Bundle.tN "backtrace" "Ljava/lang/Object;") (x_tl 54 rfl (by decide +kernel))) (a' (.lays Bundle.tN Bundle.tN "backtrace" "Ljava/lang/Object;") (x_tl 55 rfl (by decide +kernel))) e.platform hpl
  obtain ⟨cellS, hcS', heS, -, hkeep⟩ := X.same.2.2.2.2.2 T.aS cellS0 hcS0
  have hcellS : W.heap[T.aS]? = some cellS := hcS'
  have hout' : ∀ i, (⟨T.aS, i⟩ : Loc) ∉ locs := fun i hmem => by
    have := hlocs _ hmem cellS0 hcS0
    rw [hiss] at this; cases this
  have hknownS : cellS.vm ≠ .unknown := by
    rw [heS]; intro hu
    rw [show cellS0.vm = .unknown from hu] at hiss
    cases hiss
  have hneS : T.aS ≠ a := Nat.ne_of_lt (Nat.lt_of_lt_of_le (Array.getElem?_eq_some_iff.mp hcS0).1 hnew)
  obtain ⟨iM, hffM⟩ := Y.msg
  obtain ⟨tyC, dC, hdC, hdnC⟩ := Cond.laysAt hfound hk Y.cause (a' (.lays xN Bundle.tN "cause" "Ljava/lang/Throwable;") (x_tl 48 rfl (by decide +kernel)))
  obtain ⟨tyS, dS, hdS, hdnS⟩ := Cond.laysAt hfound hk Y.stack (a' (.lays xN Bundle.tN "stackTrace" Bundle.steD) (x_tl 49 rfl (by decide +kernel)))
  obtain ⟨tyP, dP, hdP, hdnP⟩ := Cond.laysAt hfound hk Y.supp (a' (.lays xN Bundle.tN "suppressedExceptions" Bundle.listD) (x_tl 50 rfl (by decide +kernel)))
  obtain ⟨tyM, dM, hdM, hdnM⟩ := Cond.laysAt hfound hk hffM (a' (.lays xN Bundle.tN "detailMessage" "Ljava/lang/String;") (x_tl 51 rfl (by decide +kernel)))
  obtain ⟨tyB, dB, hdB, hdnB⟩ := Cond.laysAt hfound hk hffB (a' (.lays xN Bundle.tN "backtrace" "Ljava/lang/Object;") (x_tl 56 rfl (by decide +kernel)))
  have bC := Cond.laysApart hdB hdC hdnB hdnC (by rw [hnB, Y.causeName]; decide)
  have bS := Cond.laysApart hdB hdS hdnB hdnS (by rw [hnB, Y.stackName]; decide)
  have bP := Cond.laysApart hdB hdP hdnB hdnP (by rw [hnB, Y.suppName]; decide)
  have hskip : SkipFacts T e.platform s (fun u => u) u0 ((preparedCellV T.toThrowableT (freshCell P1.m.cls kX) a u0 sen).withEntry W.cur) :=
    ⟨{ ci198 := ci198, i198 := i198, fBack := fB }, ⟨hk198, hg198, ha198, hsB⟩, by
      have := fresh_default (c := P1.m.cls) tyB
      rw [htB] at this
      simpa [preparedCellV, Cell.setSlot, Cell.withEntry, Array.getElem?_setIfInBounds, bC, bS, bP, bC.symm, bS.symm, bP.symm, defaultValue] using this, fun _ _ => rfl⟩
                                     
  obtain ⟨tm, methC, cdC, kC, vm₁, hnC, -, -, -, -, -, -, -, hW₁, st1⟩ := Steps.initColdS (tb := p.tables) (e := e) (below := below) (s := s) (U := W) X.here hexec X.warmed hpl hown (t := Bundle.initS xN) rfl rfl xfit
    (a' (.methodLink RX11 227 (Bundle.initS xN)) (x_tl 43 rfl (by decide +kernel))) (h (.instanceMethod (Bundle.initS xN)) (List.mem_append_left _ (List.mem_append_left _ (List.mem_append_right _ (List.mem_of_getElem? (i := 0) rfl))))) (bytes := prog_32_method_4_code) (maxL := 2) (h (.code (Bundle.initS xN) prog_32_method_4_code 2 none) (List.mem_append_left _ (List.mem_append_left _ (List.mem_append_right _ (List.mem_of_getElem? (i := 1) rfl)))))
    (f := g) hg (a := a) (msg := msg) (rest := .ref a :: rest) hstack hd6
  cases Option.some.inj (hnC.symm.trans hP1m)
  have X₁ := X.noted hW₁
                                 
  obtain ⟨vm₂, X₂, st2⟩ := X₁.ctorMessageOffV hexec (g := { g with stack := .ref a :: rest }) hg hsize T L Z LZ M LM (P1 :: P2 :: Ps2)
    (fun P hP => by rcases List.mem_cons.mp hP with rfl | hP; exact L1; exact hL P hP) ⟨hlink1, hlink⟩ (u0 := u0) (sen := sen) (self := a) hmsg (cell := freshCell P1.m.cls kX) (cellS := cellS)
    hcell (fun _ => by simp) (by simp) rfl rfl hsel0 hselF hcellS hneS hknownS (by rw [hkeep _ (hout' _)]; exact hu0) (by rw [hkeep _ (hout' _)]; exact hsen)
    (Takes.of_laid hk hord tyC (by rw [Y.causeType]; rfl)) (Takes.of_laid hk hord tyS (by rw [Y.stackType]; exact fits_refV_array _ u0)) (Takes.of_laid hk hord tyP (by rw [Y.suppType]; exact fits_refV_object _ sen))
    (Takes.of_laid hk hord tyM (by rw [Y.msgType]; exact fits_refV_object _ ⟨msg, hmsg⟩)) Y.objLocals hskip htr [] hd6
    (by simp only [List.length_cons, hlen2]; omega) (by simp only [List.length_cons, hlen2]; exact hRlocals)
                                    
  obtain ⟨hwalk, hrun, hended, hWU, hsame⟩ := X₂.athrowLeaves hexec (g := { g with stack := .ref a :: rest, pc := g.pc + 3 }) hg hlocked hentered hout (a := a) (rest := rest) rfl hd9
  obtain ⟨c3, c4, hc3, hc4, hasg⟩ := Cond.castable_spec (a' (.castable xN xN) (x_tl 45 rfl (by decide +kernel)))
  cases Option.some.inj (hc3.symm.trans hfound)
  cases Option.some.inj (hc4.symm.trans hfound)
  have hlt : a < ((W.setVm vm₁).setVm vm₂).heap.size := (Array.getElem?_eq_some_iff.mp hcell).1
  have hU := heapAt_setCell_self (s := (W.setVm vm₁).setVm vm₂) (plainBareV T.toThrowableT (freshCell P1.m.cls kX) a u0 sen msg) hlt
  have hnM : T.fMsg.name = "detailMessage" := (State.fieldFound?_type hffM (t := .object "java/lang/String") (by decide +kernel)).1
  have nCS := Cond.laysApart hdC hdS hdnC hdnS (by rw [Y.causeName, Y.stackName]; decide)
  have nCP := Cond.laysApart hdC hdP hdnC hdnP (by rw [Y.causeName, Y.suppName]; decide)
  have nCM := Cond.laysApart hdC hdM hdnC hdnM (by rw [Y.causeName, hnM]; decide)
  have nSP := Cond.laysApart hdS hdP hdnS hdnP (by rw [Y.stackName, Y.suppName]; decide)
  have nSM := Cond.laysApart hdS hdM hdnS hdnM (by rw [Y.stackName, hnM]; decide)
  have nPM := Cond.laysApart hdP hdM hdnP hdnM (by rw [Y.suppName, hnM]; decide)
  have lC : T.fCause.slot < kX.instanceTypes.size := (Array.getElem?_eq_some_iff.mp tyC).1
  have lS : T.fStack.slot < kX.instanceTypes.size := (Array.getElem?_eq_some_iff.mp tyS).1
  have lP : T.fSupp.slot < kX.instanceTypes.size := (Array.getElem?_eq_some_iff.mp tyP).1
  have lM : T.fMsg.slot < kX.instanceTypes.size := (Array.getElem?_eq_some_iff.mp tyM).1
  have evU : ∀ o, (Term.static Bundle.tN "UNASSIGNED_STACK" Bundle.steD).eval args s o [] s = some u0.v := by
    intro o
    simp [Term.eval, State.fieldNamed?, Y.unassigned, L.unassignedStatic, L.statics, hcS0, hiss, hu0]
  have evS : ∀ o, (Term.static Bundle.tN "SUPPRESSED_SENTINEL" Bundle.listD).eval args s o [] s = some sen.v := by
    intro o
    simp [Term.eval, State.fieldNamed?, Y.sentinel, L.sentinelStatic, L.statics, hcS0, hiss, hsen]
  refine ⟨_, st1 _ (fun acts => ?_), hrun, hended, hWU, hsame.weaken (fun y hy hlt' => ?_) (Nat.le_refl _) (Nat.le_refl _), _, hU, ?_⟩
  · rw [doInvoke_state]
    exact st2 _ hwalk
  · rcases List.mem_append.mp hy with h1 | h1
    · exact h1
    · exfalso
      have hb : y.base = a := by
        simp only [List.mem_cons, List.not_mem_nil, or_false] at h1
        rcases h1 with rfl | rfl | rfl | rfl | rfl <;> rfl
      rw [hb] at hlt'
      exact Nat.not_lt.mpr hnew hlt'
  · exact ⟨rfl, hfound⟩
end XC

/-! calls that throw, on a fresh object; the law's own methods that catch -/
def TX (A : Nat → Prop) (U : State) : Prop := vx_Zq Bundle.tN "UNASSIGNED_STACK" Bundle.steD A U U.heap ∧ vx_Zq Bundle.tN "SUPPRESSED_SENTINEL" Bundle.listD A U U.heap
def SX (k : Nat) (tx : String) (U : State) : Prop := ∃ sa : Nat, vk_R RX11 k tx sa U
def XX (A : Nat → Prop) (U : State) : Prop := TX A U ∧ SX 225 "no such hearse" U ∧ SX 253 "no such thing of a hearse" U ∧ SX 268 "no such mourner" U ∧ SX 276 "no such thing of a mourner" U ∧ SX 492 "no such number of the row" U
def xPre (D : va_G) (τ : Nat → ClassId) (sA sV : Nat → Nat) (wc : va_W) (sz : Nat) : State → Prop := fun U => kPre D τ sA sV wc sz U ∧ XX (va_A wc sz) U
abbrev xPc (D : va_G) (τ : Nat → ClassId) (sA sV : Nat → Nat) (wc : va_W) (sz : Nat) (As : List Value) : Array Value → State → Prop := va_Pc As (xPre D τ sA sV wc sz)
abbrev XCQ (D : va_G) (Wf : Mem → va_W) (Qx : Mem → Prop) (A : Nat → Prop) : String → State → State → Prop := vx_X (fun _ : Unit => True) (fun E _ t => E = "java/util/NoSuchElementException" ∧ gW D A (EQv Wf MR Qx) t) A
theorem SX.warm {k : Nat} {tx : String} {s U : State} (hW : s.WarmedH U.vm) (h : SX k tx s) : SX k tx U := by
  obtain ⟨sa, hsa⟩ := h
  exact ⟨sa, vk_R.warm hW hsa⟩
theorem SX.same {k : Nat} {tx : String} {u U : State} (hv : U.vm = u.vm) (h : SX k tx u) : SX k tx U := by
  obtain ⟨sa, hsa⟩ := h
  exact ⟨sa, vk_R.same hv hsa⟩
theorem xPc_blind {D : va_G} {τ : Nat → ClassId} {sA sV : Nat → Nat} {wc : va_W} {sz : Nat} {As : List Value} : FrameBlind (xPc D τ sA sV wc sz As) := fun a U g mk q => by
  obtain ⟨q0, q1, q2, q3⟩ := q
  exact ⟨q0, (kPc_blind (As := As) a U g mk ⟨q0, q1⟩).2, ⟨vx_Zq.moved (u := U) (U := U.calling g mk a) (Vm.Alike.refl U.vm) q2.1, vx_Zq.moved (u := U) (U := U.calling g mk a) (Vm.Alike.refl U.vm) q2.2⟩, q3.1.same rfl, q3.2.1.same rfl, q3.2.2.1.same rfl, q3.2.2.2.1.same rfl, q3.2.2.2.2.same rfl⟩
theorem NXw.use {args : Array Value} {s : State} (hN : NXw s) : ∀ w ∈ lw_nest, w.before args s = true := fun w hw => by
  have h1 := (List.mem_filter.mp hw).2
  have h2 := hN w hw
  revert h1 h2
  cases w <;> intro h1 h2 <;> first | exact absurd h1 Bool.false_ne_true | exact va_Nw.use rfl h2 | (simp [isNest] at h1)
def x_sl : List Cond := tables_1_5.drop 150 ++ tables_1_1.take 40
theorem x_sub : ∀ w ∈ x_sl, w ∈ lw_tbl := fun w hw => List.mem_append_right _ ((List.mem_append.mp hw).elim (fun h => List.mem_append_right _ (List.mem_append_right _ (List.mem_append_right _ (List.mem_append_right _ (List.mem_append_left _ (List.mem_of_mem_drop h)))))) (fun h => List.mem_append_left _ (List.mem_of_mem_take h)))
theorem x_at1a : ∀ w ∈ (xA.filter vx_no).filter goodWord, w ∈ x_sl := by decide +kernel
theorem x_at1 : ∀ w ∈ (xA.filter vx_no).filter goodWord, w ∈ lw_tbl := fun w hw => x_sub w (x_at1a w hw)
theorem x_at2a : ∀ w ∈ (xA.filter vx_no).filter (fun w => !goodWord w), w ∈ x_sl ∧ isNest w = true := by decide +kernel
theorem x_at2 : ∀ w ∈ (xA.filter vx_no).filter (fun w => !goodWord w), w ∈ lw_nest := fun w hw => List.mem_filter.mpr ⟨x_sub w (x_at2a w hw).1, (x_at2a w hw).2⟩
theorem x_at3 : ∀ w ∈ Cond.classLink RX11 223 xN :: Cond.initialized xN :: xA.filter vx_no, vx_ot w = true := by decide +kernel
set_option maxRecDepth 100000 in
theorem x_cast : Cond.castable "java/util/NoSuchElementException" "java/util/NoSuchElementException" ∈ lw_nest := List.mem_filter.mpr ⟨List.mem_append_right _ (lw_m5 169 rfl), by decide +kernel⟩
set_option maxRecDepth 100000 in
theorem x_cl : Cond.classLink RX11 223 "java/util/NoSuchElementException" ∈ lw_good := lw_h5 167 rfl rfl
set_option maxRecDepth 100000 in
theorem x_in : Cond.initialized "java/util/NoSuchElementException" ∈ lw_good := lw_h1 25 rfl rfl
set_option maxRecDepth 100000 in
theorem x_cl13 : Cond.classLink RL 13 "java/util/NoSuchElementException" ∈ lw_good := lw_h5 162 rfl rfl
theorem x_met {l : Launch} {y : MethodName} {b : ByteArray} {mL lev sz : Nat} {ret : Option FieldType} {D : va_G} {τ : Nat → ClassId} {sA sV : Nat → Nat} {wc : va_W} {As : List Value} {Qc : (Nat → Prop) → Array Value → State → Outcome → State → Prop} {XC : (Nat → Prop) → String → State → State → Prop} (hpl : plainName y.cls = true) (hn : (lg_sl As).length ≤ mL)
    (body : ∀ (p : Program) (e : Env) (s : State) (m : MethodId) (args : Array Value) (below : List Frame) (meth : Method) (c : Code) (A : Nat → Prop) (ls : Array Slot), p.tables.exec = Jvm.exec → c.code = b → c.maxLocals = mL → meth.sig.returnType = ret → meth.locks = false → cx D τ s m args y.cls → LK A s s.heap sA sV → XX A s → (∀ x ∈ c.exceptionTable.toList, False) → (∀ q : Nat, s.heap.size ≤ q → A q) → wS D A s.heap wc s.heap [] → lv_has ls mL (lv_args 0 As) →
      W p l e (rmk lev 1 6) s m args below meth c s.heap [] 0 0 (vx_MQ below (Qc A) (XC A) args s 1 6 A) (F0 m 0 ls [])) :
    vx_Met l y (lw_w y b mL ret) (rmk lev 1 6) (xPc D τ sA sV wc sz As) (Qc (va_A wc sz)) (XC (va_A wc sz)) 1 6 (va_A wc sz) := by
  refine vx_ofW (cc := b) (maxL := mL) (ret := ret) hpl rfl ?_
  intro p e s m args below meth c s₁ B hml htab hv
  obtain ⟨rfl, ⟨⟨hsz, hP, hK, hD0⟩, hLS⟩, hX⟩ := hv
  have hts := atoms_spec (ws := lw_w y b mL ret) B.pre
  have hown : s.vm.findClass y.cls = some m.cls := findClass_of_methodNamed B.named
  subst hsz
  have hl := lv_entry As (n := mL) hn
  rw [lg_entry_eq]
  exact body p e s m _ below meth c (va_A wc s.heap.size) _ B.exec B.bytes hml B.returns B.notSynchronized ⟨fun w hw => hts w (List.mem_cons_of_mem _ hw), hown, hK.1, hK.2⟩ hLS hX htab (fun q h => Or.inr h) ⟨hP, hD0.self, va_S.rf⟩ hl
section RX
variable {p : Program} {l : Launch} {e : Env} {s : State} {m : MethodId} {args : Array Value} {below : List Frame} {meth : Method} {c : Code} {H : Heap} {locs : List Loc}
variable {cc : ByteArray} {pc : Nat} {ls : Array Slot} {rest : List Value} {D : va_G} {A : Nat → Prop} {ws wc : va_W} {τ : Nat → ClassId} {mL lev k : Nat} {tx : String} {Qc : Array Value → State → Outcome → State → Prop} {Wf : Mem → va_W} {M0 : Mem} {Qx : Mem → Prop} {sA sV : Nat → Nat}
theorem x_hat (hC : cx D τ s m args RX11) : ∀ w ∈ xA.filter vx_no, w.before args s = true := vx_hat (fun w hw => hC.1 w (List.mem_filter.mpr ⟨x_at1 w hw, (List.mem_filter.mp hw).2⟩)) x_at2 (NXw.use hC.2.2.2.1)
theorem x_thrown {t : State} (hw : wS D A s.heap (Wf M0) H locs) (hM : MR M0) (hq : Qx M0) (h1 : H.size ≤ t.heap.size) (h2 : ∀ q : Nat, q < H.size → t.heap[q]? = H[q]?) : XCQ D Wf Qx A "java/util/NoSuchElementException" s t := ⟨(), trivial, ⟨rfl, Wf M0, ⟨M0, hM, hq, rfl⟩, hw.1.kept (fun k q hk => h2 q.1 (hw.1 k q hk).lt), hw.2.1⟩, Nat.le_trans hw.2.2.1 h1, fun q a b => (h2 q (Nat.lt_of_lt_of_le a hw.2.2.1)).trans (hw.2.2.2.1 q a b)⟩
set_option maxHeartbeats 4000000 in
set_option maxRecDepth 100000 in
theorem x_throwS (hx : p.tables.exec = Jvm.exec) (hb : c.code = cc) (hst : l.stackTraces = false) (hml : c.maxLocals = mL) (hlk : meth.locks = false) (hC : cx D τ s m args RX11) (hT : TX A s) (hSx : SX k tx s) (htab : ∀ x ∈ c.exceptionTable.toList, False) (hw : wS D A s.heap (Wf M0) H locs) (hM : MR M0) (hq : Qx M0) (hl : ls.size = mL) (hlev : 5 < lev) (hcat : (rest.map fun v => v.category).sum ≤ 8) (d0 : decode cc pc = .ok (.new 223, 3)) (d3 : decode cc (pc + 3) = .ok (.dup, 1)) (d4 : decode cc (pc + 4) = .ok (.ldc k, 2)) (d6 : decode cc (pc + 6) = .ok (.invokespecial 227, 3)) (d9 : decode cc (pc + 9) = .ok (.athrow, 1)) :
    W p l e (rmk lev 1 6) s m args below meth c H locs 0 0 (vx_MQ below Qc (XCQ D Wf Qx A) args s 1 6 A) (F0 m pc ls rest) := by
  obtain ⟨sa, hsa⟩ := hSx
  intro T hT9 X
  have htr : e.platform.stackTraces = false := (show e.platform.stackTraces = l.stackTraces by rw [X.admits.platform]).trans hst
  have Y := vx_rebase X (R' := rmk lev 1 6) (Nat.le_refl _) (Nat.le_refl _) (Nat.le_refl _) (Nat.le_refl _)
  obtain ⟨s', hA⟩ : ∃ z, z = (T.setVm s.vm).setFrames (.invoking m args :: below) := ⟨_, rfl⟩
  rw [← hA] at Y
  have hvm : s'.vm = s.vm := by rw [hA]; rfl
  have hhp : s'.heap = H := by rw [hA]; exact hT9
  have hW0 : s.WarmedH s'.vm := by rw [hvm]; exact State.WarmedH.refl s
  have hat' : ∀ w ∈ xA.filter vx_no, w.before args s' = true := fun w hw => vx_ot_at hW0 hvm.symm (x_at3 w (List.mem_cons_of_mem _ (List.mem_cons_of_mem _ hw))) (x_hat hC w hw)
  have hk' : (Cond.classLink RX11 223 xN).before args s' = true := vx_ot_at hW0 hvm.symm (x_at3 _ List.mem_cons_self) (hC.1 _ x_cl)
  have hini' : (Cond.initialized xN).before args s' = true := vx_ot_at hW0 hvm.symm (x_at3 _ (List.mem_cons_of_mem _ List.mem_cons_self)) (hC.1 _ x_in)
  have hU' : vx_Zq Bundle.tN "UNASSIGNED_STACK" Bundle.steD A s' s'.heap := by rw [hhp]; exact vx_Zq.moved hW0.alike (hT.1.kept hw.2.2.2.1)
  have hN' : vx_Zq Bundle.tN "SUPPRESSED_SENTINEL" Bundle.listD A s' s'.heap := by rw [hhp]; exact vx_Zq.moved hW0.alike (hT.2.kept hw.2.2.2.1)
  have h : ∀ w ∈ xA, w.before args s' = true := vx_own hat' (vx_isRefq hU'.1) (vx_isRefq hN'.1) hU'.2.word hN'.2.word
  have hown' : s'.vm.findClass RX11 = some m.cls := by rw [hvm]; exact hC.2.1
  have hins : (Cond.instantiable xN 6).before args s' = true := h _ (x_tl 44 rfl (by decide +kernel))
  obtain ⟨vm₁, cX, kX, hfX, hkX, -, -, X₁, st1⟩ := Y.newCold hx (own := RX11) (C := xN) (index := 223) (n := 6) hown' hk' hins hini'
    (g := F0 m pc ls rest) rfl (by rw [hb]; exact d0) (Nat.le_refl _) (Nat.le_refl _)
  generalize hT1 : (T.setVm vm₁).pushCell { cls := cX, slots := kX.instanceTypes.map defaultValue, vm := .none } = T1 at X₁ st1
  have hcat9 : (Value.ref T.heap.size).category = 1 := rfl
  have hcellA : T1.heap[T.heap.size]? = some (freshCell cX kX) := by rw [← hT1]; exact State.heap_pushCell_size _ _
  have d3' : decode c.code (pc + 3) = .ok (.dup, 1) := by rw [hb]; exact d3
  have d4' : decode c.code (pc + 4) = .ok (.ldc k, 2) := by rw [hb]; exact d4
  have hstr' : vk_R RX11 k tx sa s' := vk_R.warm hW0 hsa
  obtain ⟨U, hsteps, hrun, hend, hW, hsame, ce, hce, hOv, hOc⟩ := x_ctor X₁ hx htr hown' h (fun x hx => nomatch hx) hfX hkX hcellA (by rw [hhp, hT9]; exact Nat.le_refl _) (msg := .ref sa) rfl
    (g := { method := m, pc := pc + 6, locals := ls, stack := .ref sa :: .ref T.heap.size :: .ref T.heap.size :: rest, locked := none }) rfl (hl.trans hml.symm) rfl rfl (rest := rest) rfl
    (by rw [hb]; exact d6) (by rw [hb]; exact d9) (fun x h => (htab x h).elim) (by show 2 + 3 < lev; omega) (by simp only [List.map_cons, List.sum_cons, hcat9]; show _ ≤ 64 * lev; omega) hlk
  obtain ⟨f1, f2⟩ := vx_frame hsame
  rw [hhp] at f1 f2
  have hWs : s.WarmedH U.vm := State.WarmedH.trans hW0 hW
  have hcl : s.vm.findClass xN = some ce.cls := by
    have h9 := hOc
    rw [hvm] at h9
    exact h9
  have hall : s.sameButNew ({ U with vm := s.vm } : State) locs 1 6 := by
    subst hA
    obtain ⟨e1, e2⟩ := hsame
    rw [State.setFrames_setFrames] at e1
    have h2 : (T.setVm s.vm).sameButNew ({ U with vm := s.vm } : State) [] (0 + 1) (0 + 6) := ⟨e1, e2⟩
    have h3 := X.same.trans h2
    rw [List.append_nil] at h3
    exact h3.mono (Nat.le_refl _) (Nat.le_refl _)
  refine ⟨U, ?_, .threw T.heap.size, hrun, hend, Or.inr ⟨T.heap.size, rfl, xN, ce, locs, x_thrown hw hM hq f1 (fun q hq => f2 q hq (fun z hz => nomatch hz)), hce, hOv, hcl, hWs, hall, hw.2.2.2.2⟩⟩
  refine st1 _ ?_
  show Steps p.tables e below (T1.setTop { method := m, pc := pc + 3, locals := ls, stack := .ref T.heap.size :: rest, locked := none }) _
  jvm_step X₁.here [X₁.here.top, hx, d3', Value.category]
  exact X₁.ldcString hx (own := RX11) (text := tx) (index := k) (a := sa) hown' hstr'.1 hstr'.2
    (g := { method := m, pc := pc + 4, locals := ls, stack := .ref T.heap.size :: .ref T.heap.size :: rest, locked := none }) rfl d4' _ hsteps
set_option maxHeartbeats 4000000 in
set_option maxRecDepth 100000 in
theorem x_throwSW (hx : p.tables.exec = Jvm.exec) (hb : c.code = cc) (hst : l.stackTraces = false) (hml : c.maxLocals = mL) (hlk : meth.locks = false) (hC : cx D τ s m args RX11) (hT : TX A s) (hSx : SX k tx s) (htab : ∀ x ∈ c.exceptionTable.toList, False) (hw : wS D A s.heap (Wf M0) H locs) (hM : MR M0) (hq : Qx M0) (hl : ls.size = mL) (hlev : 5 < lev) (hcat : (rest.map fun v => v.category).sum ≤ 8) (d0 : decode cc pc = .ok (.new 223, 3)) (d3 : decode cc (pc + 3) = .ok (.dup, 1)) (d4 : decode cc (pc + 4) = .ok (.ldc_w k, 3)) (d7 : decode cc (pc + 7) = .ok (.invokespecial 227, 3)) (d10 : decode cc (pc + 10) = .ok (.athrow, 1)) :
    W p l e (rmk lev 1 6) s m args below meth c H locs 0 0 (vx_MQ below Qc (XCQ D Wf Qx A) args s 1 6 A) (F0 m pc ls rest) := by
  obtain ⟨sa, hsa⟩ := hSx
  intro T hT9 X
  have htr : e.platform.stackTraces = false := (show e.platform.stackTraces = l.stackTraces by rw [X.admits.platform]).trans hst
  have Y := vx_rebase X (R' := rmk lev 1 6) (Nat.le_refl _) (Nat.le_refl _) (Nat.le_refl _) (Nat.le_refl _)
  obtain ⟨s', hA⟩ : ∃ z, z = (T.setVm s.vm).setFrames (.invoking m args :: below) := ⟨_, rfl⟩
  rw [← hA] at Y
  have hvm : s'.vm = s.vm := by rw [hA]; rfl
  have hhp : s'.heap = H := by rw [hA]; exact hT9
  have hW0 : s.WarmedH s'.vm := by rw [hvm]; exact State.WarmedH.refl s
  have hat' : ∀ w ∈ xA.filter vx_no, w.before args s' = true := fun w hw => vx_ot_at hW0 hvm.symm (x_at3 w (List.mem_cons_of_mem _ (List.mem_cons_of_mem _ hw))) (x_hat hC w hw)
  have hk' : (Cond.classLink RX11 223 xN).before args s' = true := vx_ot_at hW0 hvm.symm (x_at3 _ List.mem_cons_self) (hC.1 _ x_cl)
  have hini' : (Cond.initialized xN).before args s' = true := vx_ot_at hW0 hvm.symm (x_at3 _ (List.mem_cons_of_mem _ List.mem_cons_self)) (hC.1 _ x_in)
  have hU' : vx_Zq Bundle.tN "UNASSIGNED_STACK" Bundle.steD A s' s'.heap := by rw [hhp]; exact vx_Zq.moved hW0.alike (hT.1.kept hw.2.2.2.1)
  have hN' : vx_Zq Bundle.tN "SUPPRESSED_SENTINEL" Bundle.listD A s' s'.heap := by rw [hhp]; exact vx_Zq.moved hW0.alike (hT.2.kept hw.2.2.2.1)
  have h : ∀ w ∈ xA, w.before args s' = true := vx_own hat' (vx_isRefq hU'.1) (vx_isRefq hN'.1) hU'.2.word hN'.2.word
  have hown' : s'.vm.findClass RX11 = some m.cls := by rw [hvm]; exact hC.2.1
  have hins : (Cond.instantiable xN 6).before args s' = true := h _ (x_tl 44 rfl (by decide +kernel))
  obtain ⟨vm₁, cX, kX, hfX, hkX, -, -, X₁, st1⟩ := Y.newCold hx (own := RX11) (C := xN) (index := 223) (n := 6) hown' hk' hins hini'
    (g := F0 m pc ls rest) rfl (by rw [hb]; exact d0) (Nat.le_refl _) (Nat.le_refl _)
  generalize hT1 : (T.setVm vm₁).pushCell { cls := cX, slots := kX.instanceTypes.map defaultValue, vm := .none } = T1 at X₁ st1
  have hcat9 : (Value.ref T.heap.size).category = 1 := rfl
  have hcellA : T1.heap[T.heap.size]? = some (freshCell cX kX) := by rw [← hT1]; exact State.heap_pushCell_size _ _
  have d3' : decode c.code (pc + 3) = .ok (.dup, 1) := by rw [hb]; exact d3
  have d4' : decode c.code (pc + 4) = .ok (.ldc_w k, 3) := by rw [hb]; exact d4
  have hstr' : vk_R RX11 k tx sa s' := vk_R.warm hW0 hsa
  obtain ⟨U, hsteps, hrun, hend, hW, hsame, ce, hce, hOv, hOc⟩ := x_ctor X₁ hx htr hown' h (fun x hx => nomatch hx) hfX hkX hcellA (by rw [hhp, hT9]; exact Nat.le_refl _) (msg := .ref sa) rfl
    (g := { method := m, pc := pc + 7, locals := ls, stack := .ref sa :: .ref T.heap.size :: .ref T.heap.size :: rest, locked := none }) rfl (hl.trans hml.symm) rfl rfl (rest := rest) rfl
    (by rw [hb]; exact d7) (by rw [hb]; exact d10) (fun x h => (htab x h).elim) (by show 2 + 3 < lev; omega) (by simp only [List.map_cons, List.sum_cons, hcat9]; show _ ≤ 64 * lev; omega) hlk
  obtain ⟨f1, f2⟩ := vx_frame hsame
  rw [hhp] at f1 f2
  have hWs : s.WarmedH U.vm := State.WarmedH.trans hW0 hW
  have hcl : s.vm.findClass xN = some ce.cls := by
    have h9 := hOc
    rw [hvm] at h9
    exact h9
  have hall : s.sameButNew ({ U with vm := s.vm } : State) locs 1 6 := by
    subst hA
    obtain ⟨e1, e2⟩ := hsame
    rw [State.setFrames_setFrames] at e1
    have h2 : (T.setVm s.vm).sameButNew ({ U with vm := s.vm } : State) [] (0 + 1) (0 + 6) := ⟨e1, e2⟩
    have h3 := X.same.trans h2
    rw [List.append_nil] at h3
    exact h3.mono (Nat.le_refl _) (Nat.le_refl _)
  refine ⟨U, ?_, .threw T.heap.size, hrun, hend, Or.inr ⟨T.heap.size, rfl, xN, ce, locs, x_thrown hw hM hq f1 (fun q hq => f2 q hq (fun z hz => nomatch hz)), hce, hOv, hcl, hWs, hall, hw.2.2.2.2⟩⟩
  refine st1 _ ?_
  show Steps p.tables e below (T1.setTop { method := m, pc := pc + 3, locals := ls, stack := .ref T.heap.size :: rest, locked := none }) _
  jvm_step X₁.here [X₁.here.top, hx, d3', Value.category]
  exact X₁.ldcStringW hx (own := RX11) (text := tx) (index := k) (a := sa) hown' hstr'.1 hstr'.2
    (g := { method := m, pc := pc + 4, locals := ls, stack := .ref T.heap.size :: .ref T.heap.size :: rest, locked := none }) rfl d4' _ hsteps
/-- the start of a call, with what a throw wants -/
theorem x_pre {own : String} {isC : List Nat} {H0 : Heap} (hH : H0 = s.heap) (hC' : cx D τ s m args own) (hA : ∀ q, H0.size ≤ q → A q) (hLS : LK A s s.heap sA sV) (hX : XX A s) (hw : wS D A H0 ws H locs) (hC : isC.map (fun i => ws[i]?) = wc.map some) (hn : va_nd isC = true) {Bs : List Value} : ∀ U : State, U.heap = H → s.WarmedH U.vm → xPc D τ sA sV wc H.size Bs Bs.toArray U := fun U hU hW => by
  subst hH
  have hF := va_free hw.2.1 hw.2.2 hA isC hC
  refine ⟨rfl, (k_pre rfl hC' hA hLS hw hC hn (Bs := Bs) U hU hW).2, ⟨?_, ?_⟩, hX.2.1.warm hW, hX.2.2.1.warm hW, hX.2.2.2.1.warm hW, hX.2.2.2.2.1.warm hW, hX.2.2.2.2.2.warm hW⟩
  · rw [hU]; exact ((hX.1.1.kept hw.2.2.2.1).moved hW.alike).narrow hF
  · rw [hU]; exact ((hX.1.2.kept hw.2.2.2.1).moved hW.alike).narrow hF
end RX
end
section
set_option maxHeartbeats 4000000 in
set_option maxRecDepth 100000 in
theorem mX11_hearse (l : Launch) (hst : l.stackTraces = false) (D : va_G) (τ : Nat → ClassId) (ad : Nat → Nat) (sA sV : Nat → Nat) (sz : Nat) (p1 : Int) (p2 : Int) (hp1 : iR p1) (hp2 : iR p2) (M : Mem) (hM : MR M) (Q : Int → Mem → Prop) (E : Mem → Prop) (hv : qX11_hearse p1 p2 M Q E) : vx_Met l yX11_hearse (lw_w yX11_hearse cX11_hearse 3 (some .int)) (rmk 8 1 6) (xPc D τ sA sV (WX τ ad M) sz [.ref (ad 155), .int (iI p1), .int (iI p2)]) (gQi D (EQi (WX τ ad) MR Q) (va_A (WX τ ad M) sz)) (XCQ D (WX τ ad) E (va_A (WX τ ad M) sz)) 1 6 (va_A (WX τ ad M) sz) := by
  refine x_met (ret := (some .int)) (Qc := gQi D (EQi (WX τ ad) MR Q)) (XC := XCQ D (WX τ ad) E) (by decide +kernel) (Nat.le_of_ble_eq_true rfl) ?_
  intro p e s m args below meth c A ls hx hb hml hr hlk hC hLS hX htab hA hw hl
  have hC : cx D τ s m args RX11 := hC
  have hl : lv_has ls 3 [(0, .ref (ad 155)), (1, .int (iI p1)), (2, .int (iI p2))] := hl
  unfold qX11_hearse at hv
  refine lv_aload_n hx hb dX11_hearse_0 rfl (lv_at hl 0 rfl) ?_
  refine gf_X11_26 hx hb hC hw 155 (gX_155 τ ad M) rfl dX11_hearse_1 ?_
  refine lv_iload_n hx hb dX11_hearse_4 rfl (lv_at hl 1 rfl) ?_
  refine k_cVz (wq_X τ ad) hx hb hml hC hLS hA hw hl.1 (mX6_isHearse l D τ ad sA sV _ 1 p1 (by decide) hp1 M hM _ hv) kX6_isHearse ml_X11_220 rfl (gS_X (by decide) τ ad M) rfl rfl (Nat.le_of_ble_eq_true rfl) (rm_ok (by decide) (by decide)) ⟨by show _ ≤ 1; omega, by show _ ≤ 6; omega⟩ dX11_hearse_5 (fun x1 M1 H locs g1 z1 hM hv hw => ?_)
  have hv := hv g1 z1
  refine r_if_ne (tgt := 21) hx hb dX11_hearse_8 (by decide) g1  (fun b2 => ?_) (fun b2 => ?_)
  · have hv := hv.1 b2
    refine lv_iload_n hx hb dX11_hearse_21 rfl (lv_at hl 2 rfl) ?_
    rcases (show p2 = 0 ∨ p2 = 1 ∨ p2 = 2 ∨ p2 = 3 ∨ p2 = 4 ∨ p2 = 5 ∨ (p2 < 0 ∨ 5 < p2) by omega) with b3 | b3 | b3 | b3 | b3 | b3 | b3
    · refine r_tblI (tgt := 60) hx hb dX11_hearse_22 hp2 (by omega) (by omega) (by rw [b3]; first | done | rfl) (by decide) ?_
      have hv := hv.1 b3
      refine lv_aload_n hx hb dX11_hearse_60 rfl (lv_at hl 0 rfl) ?_
      refine gf_X11_26 hx hb hC hw 155 (gX_155 τ ad M1) rfl dX11_hearse_61 ?_
      refine gf_X11_230 hx hb hC hw 1 (gS_X (by decide) τ ad M1) rfl dX11_hearse_64 ?_
      refine lv_iload_n hx hb dX11_hearse_67 rfl (lv_at hl 1 rfl) ?_
      obtain ⟨c4, hv⟩ := hv
      obtain ⟨c5, hv⟩ := hv
      refine r_iald hx hb hC hw 2 (gI_X (isS_f0 (by decide)) τ ad M1) c4 c5 (by decide) dX11_hearse_68 ?_
      refine r_top (fun x6 e6 => ?_)
      have g6 : iR x6 := by rw [e6]; exact hM.get (isS_f0 (by decide)).pos _
      have hv := hv x6 e6 g6
      refine vx_ret ?_
      refine W.widen (k := 1) (n := 6) (by omega) (by omega) ?_
      exact k_iret (wq_X τ ad) hx hb hr hlk hw hM g6 hv dX11_hearse_69
    · refine r_tblI (tgt := 70) hx hb dX11_hearse_22 hp2 (by omega) (by omega) (by rw [b3]; first | done | rfl) (by decide) ?_
      have hv := hv.2.1 b3
      refine lv_aload_n hx hb dX11_hearse_70 rfl (lv_at hl 0 rfl) ?_
      refine gf_X11_26 hx hb hC hw 155 (gX_155 τ ad M1) rfl dX11_hearse_71 ?_
      refine gf_X11_234 hx hb hC hw 1 (gS_X (by decide) τ ad M1) rfl dX11_hearse_74 ?_
      refine lv_iload_n hx hb dX11_hearse_77 rfl (lv_at hl 1 rfl) ?_
      obtain ⟨c7, hv⟩ := hv
      obtain ⟨c8, hv⟩ := hv
      refine r_iald hx hb hC hw 3 (gI_X (isS_f1 (by decide)) τ ad M1) c7 c8 (by decide) dX11_hearse_78 ?_
      refine r_top (fun x9 e9 => ?_)
      have g9 : iR x9 := by rw [e9]; exact hM.get (isS_f1 (by decide)).pos _
      have hv := hv x9 e9 g9
      refine vx_ret ?_
      refine W.widen (k := 1) (n := 6) (by omega) (by omega) ?_
      exact k_iret (wq_X τ ad) hx hb hr hlk hw hM g9 hv dX11_hearse_79
    · refine r_tblI (tgt := 80) hx hb dX11_hearse_22 hp2 (by omega) (by omega) (by rw [b3]; first | done | rfl) (by decide) ?_
      have hv := hv.2.2.1 b3
      refine lv_aload_n hx hb dX11_hearse_80 rfl (lv_at hl 0 rfl) ?_
      refine lv_iload_n hx hb dX11_hearse_81 rfl (lv_at hl 1 rfl) ?_
      refine k_cVi (wq_X τ ad) hx hb hml hC hLS hA hw hl.1 (mX11_paceNow l D τ ad sA sV _ p1 hp1 M1 hM _ hv) kX11_paceNow ml_X11_237 rfl (gX_155 τ ad M1) rfl rfl (Nat.le_of_ble_eq_true rfl) (rm_ok (by decide) (by decide)) ⟨by show _ ≤ 1; omega, by show _ ≤ 6; omega⟩ dX11_hearse_82 (fun x10 M10 H locs g10 hM hv hw => ?_)
      have hv := hv g10
      refine vx_ret ?_
      refine W.widen (k := 1) (n := 6) (by omega) (by omega) ?_
      exact k_iret (wq_X τ ad) hx hb hr hlk hw hM g10 hv dX11_hearse_85
    · refine r_tblI (tgt := 86) hx hb dX11_hearse_22 hp2 (by omega) (by omega) (by rw [b3]; first | done | rfl) (by decide) ?_
      have hv := hv.2.2.2.1 b3
      refine lv_aload_n hx hb dX11_hearse_86 rfl (lv_at hl 0 rfl) ?_
      refine gf_X11_26 hx hb hC hw 155 (gX_155 τ ad M1) rfl dX11_hearse_87 ?_
      refine lv_aload_n hx hb dX11_hearse_90 rfl (lv_at hl 0 rfl) ?_
      refine gf_X11_26 hx hb hC hw 155 (gX_155 τ ad M1) rfl dX11_hearse_91 ?_
      refine gf_X11_240 hx hb hC hw 1 (gS_X (by decide) τ ad M1) rfl dX11_hearse_94 ?_
      refine lv_iload_n hx hb dX11_hearse_97 rfl (lv_at hl 1 rfl) ?_
      refine k_cVi (wq_X τ ad) hx hb hml hC hLS hA hw hl.1 (mX6_bitsOf l D τ ad sA sV _ 1 6 p1 (by decide) (isS_f4 (by decide)) hp1 M1 hM _ hv) kX6_bitsOf ml_X11_243 rfl (gS_X (by decide) τ ad M1) rfl rfl (Nat.le_of_ble_eq_true rfl) (rm_ok (by decide) (by decide)) ⟨by show _ ≤ 1; omega, by show _ ≤ 6; omega⟩ dX11_hearse_98 (fun x11 M11 H locs g11 hM hv hw => ?_)
      have hv := hv g11
      refine vx_ret ?_
      refine W.widen (k := 1) (n := 6) (by omega) (by omega) ?_
      exact k_iret (wq_X τ ad) hx hb hr hlk hw hM g11 hv dX11_hearse_101
    · refine r_tblI (tgt := 102) hx hb dX11_hearse_22 hp2 (by omega) (by omega) (by rw [b3]; first | done | rfl) (by decide) ?_
      have hv := hv.2.2.2.2.1 b3
      refine lv_aload_n hx hb dX11_hearse_102 rfl (lv_at hl 0 rfl) ?_
      refine gf_X11_26 hx hb hC hw 155 (gX_155 τ ad M1) rfl dX11_hearse_103 ?_
      refine lv_aload_n hx hb dX11_hearse_106 rfl (lv_at hl 0 rfl) ?_
      refine gf_X11_26 hx hb hC hw 155 (gX_155 τ ad M1) rfl dX11_hearse_107 ?_
      refine gf_X11_247 hx hb hC hw 1 (gS_X (by decide) τ ad M1) rfl dX11_hearse_110 ?_
      refine lv_iload_n hx hb dX11_hearse_113 rfl (lv_at hl 1 rfl) ?_
      refine k_cVi (wq_X τ ad) hx hb hml hC hLS hA hw hl.1 (mX6_bitsOf l D τ ad sA sV _ 1 7 p1 (by decide) (isS_f5 (by decide)) hp1 M1 hM _ hv) kX6_bitsOf ml_X11_243 rfl (gS_X (by decide) τ ad M1) rfl rfl (Nat.le_of_ble_eq_true rfl) (rm_ok (by decide) (by decide)) ⟨by show _ ≤ 1; omega, by show _ ≤ 6; omega⟩ dX11_hearse_114 (fun x12 M12 H locs g12 hM hv hw => ?_)
      have hv := hv g12
      refine vx_ret ?_
      refine W.widen (k := 1) (n := 6) (by omega) (by omega) ?_
      exact k_iret (wq_X τ ad) hx hb hr hlk hw hM g12 hv dX11_hearse_117
    · refine r_tblI (tgt := 118) hx hb dX11_hearse_22 hp2 (by omega) (by omega) (by rw [b3]; first | done | rfl) (by decide) ?_
      have hv := hv.2.2.2.2.2.1 b3
      refine lv_aload_n hx hb dX11_hearse_118 rfl (lv_at hl 0 rfl) ?_
      refine gf_X11_26 hx hb hC hw 155 (gX_155 τ ad M1) rfl dX11_hearse_119 ?_
      refine lv_aload_n hx hb dX11_hearse_122 rfl (lv_at hl 0 rfl) ?_
      refine gf_X11_26 hx hb hC hw 155 (gX_155 τ ad M1) rfl dX11_hearse_123 ?_
      refine gf_X11_250 hx hb hC hw 1 (gS_X (by decide) τ ad M1) rfl dX11_hearse_126 ?_
      refine lv_iload_n hx hb dX11_hearse_129 rfl (lv_at hl 1 rfl) ?_
      refine k_cVi (wq_X τ ad) hx hb hml hC hLS hA hw hl.1 (mX6_bitsOf l D τ ad sA sV _ 1 5 p1 (by decide) (isS_f3 (by decide)) hp1 M1 hM _ hv) kX6_bitsOf ml_X11_243 rfl (gS_X (by decide) τ ad M1) rfl rfl (Nat.le_of_ble_eq_true rfl) (rm_ok (by decide) (by decide)) ⟨by show _ ≤ 1; omega, by show _ ≤ 6; omega⟩ dX11_hearse_130 (fun x13 M13 H locs g13 hM hv hw => ?_)
      have hv := hv g13
      refine vx_ret ?_
      refine W.widen (k := 1) (n := 6) (by omega) (by omega) ?_
      exact k_iret (wq_X τ ad) hx hb hr hlk hw hM g13 hv dX11_hearse_133
    · refine r_tblO (tgt := 134) hx hb dX11_hearse_22 hp2 b3 (by decide) ?_
      have hv := hv.2.2.2.2.2.2 b3
      exact x_throwS hx hb hst hml hlk hC hX.1 (hX.2.2.1) htab hw hM hv hl.1 (by decide) (Nat.le_of_ble_eq_true rfl) dX11_hearse_134 dX11_hearse_137 dX11_hearse_138 dX11_hearse_140 dX11_hearse_143
  · have hv := hv.2 b2
    exact x_throwS hx hb hst hml hlk hC hX.1 (hX.2.1) htab hw hM hv hl.1 (by decide) (Nat.le_of_ble_eq_true rfl) dX11_hearse_11 dX11_hearse_14 dX11_hearse_15 dX11_hearse_17 dX11_hearse_20
set_option maxHeartbeats 4000000 in
set_option maxRecDepth 100000 in
theorem mX11_mourner (l : Launch) (hst : l.stackTraces = false) (D : va_G) (τ : Nat → ClassId) (ad : Nat → Nat) (sA sV : Nat → Nat) (sz : Nat) (p1 : Int) (p2 : Int) (hp1 : iR p1) (hp2 : iR p2) (M : Mem) (hM : MR M) (Q : Int → Mem → Prop) (E : Mem → Prop) (hv : qX11_mourner p1 p2 M Q E) : vx_Met l yX11_mourner (lw_w yX11_mourner cX11_mourner 3 (some .int)) (rmk 8 1 6) (xPc D τ sA sV (WX τ ad M) sz [.ref (ad 155), .int (iI p1), .int (iI p2)]) (gQi D (EQi (WX τ ad) MR Q) (va_A (WX τ ad M) sz)) (XCQ D (WX τ ad) E (va_A (WX τ ad M) sz)) 1 6 (va_A (WX τ ad M) sz) := by
  refine x_met (ret := (some .int)) (Qc := gQi D (EQi (WX τ ad) MR Q)) (XC := XCQ D (WX τ ad) E) (by decide +kernel) (Nat.le_of_ble_eq_true rfl) ?_
  intro p e s m args below meth c A ls hx hb hml hr hlk hC hLS hX htab hA hw hl
  have hC : cx D τ s m args RX11 := hC
  have hl : lv_has ls 3 [(0, .ref (ad 155)), (1, .int (iI p1)), (2, .int (iI p2))] := hl
  unfold qX11_mourner at hv
  refine lv_aload_n hx hb dX11_mourner_0 rfl (lv_at hl 0 rfl) ?_
  refine gf_X11_26 hx hb hC hw 155 (gX_155 τ ad M) rfl dX11_mourner_1 ?_
  refine lv_iload_n hx hb dX11_mourner_4 rfl (lv_at hl 1 rfl) ?_
  refine k_cVz (wq_X τ ad) hx hb hml hC hLS hA hw hl.1 (mX6_isMourner l D τ ad sA sV _ 1 p1 (by decide) hp1 M hM _ hv) kX6_isMourner ml_X11_265 rfl (gS_X (by decide) τ ad M) rfl rfl (Nat.le_of_ble_eq_true rfl) (rm_ok (by decide) (by decide)) ⟨by show _ ≤ 1; omega, by show _ ≤ 6; omega⟩ dX11_mourner_5 (fun x1 M1 H locs g1 z1 hM hv hw => ?_)
  have hv := hv g1 z1
  refine r_if_ne (tgt := 22) hx hb dX11_mourner_8 (by decide) g1  (fun b2 => ?_) (fun b2 => ?_)
  · have hv := hv.1 b2
    refine lv_iload_n hx hb dX11_mourner_22 rfl (lv_at hl 2 rfl) ?_
    rcases (show p2 = 0 ∨ p2 = 1 ∨ p2 = 2 ∨ p2 = 3 ∨ p2 = 4 ∨ (p2 < 0 ∨ 4 < p2) by omega) with b3 | b3 | b3 | b3 | b3 | b3
    · refine r_tblI (tgt := 56) hx hb dX11_mourner_23 hp2 (by omega) (by omega) (by rw [b3]; first | done | rfl) (by decide) ?_
      have hv := hv.1 b3
      refine lv_aload_n hx hb dX11_mourner_56 rfl (lv_at hl 0 rfl) ?_
      refine gf_X11_26 hx hb hC hw 155 (gX_155 τ ad M1) rfl dX11_mourner_57 ?_
      refine gf_X11_270 hx hb hC hw 1 (gS_X (by decide) τ ad M1) rfl dX11_mourner_60 ?_
      refine lv_iload_n hx hb dX11_mourner_63 rfl (lv_at hl 1 rfl) ?_
      obtain ⟨c4, hv⟩ := hv
      obtain ⟨c5, hv⟩ := hv
      refine r_iald hx hb hC hw 4 (gI_X (isS_f2 (by decide)) τ ad M1) c4 c5 (by decide) dX11_mourner_64 ?_
      refine r_top (fun x6 e6 => ?_)
      have g6 : iR x6 := by rw [e6]; exact hM.get (isS_f2 (by decide)).pos _
      have hv := hv x6 e6 g6
      refine vx_ret ?_
      refine W.widen (k := 1) (n := 6) (by omega) (by omega) ?_
      exact k_iret (wq_X τ ad) hx hb hr hlk hw hM g6 hv dX11_mourner_65
    · refine r_tblI (tgt := 66) hx hb dX11_mourner_23 hp2 (by omega) (by omega) (by rw [b3]; first | done | rfl) (by decide) ?_
      have hv := hv.2.1 b3
      refine lv_aload_n hx hb dX11_mourner_66 rfl (lv_at hl 0 rfl) ?_
      refine gf_X11_26 hx hb hC hw 155 (gX_155 τ ad M1) rfl dX11_mourner_67 ?_
      refine gf_X11_250 hx hb hC hw 1 (gS_X (by decide) τ ad M1) rfl dX11_mourner_70 ?_
      refine lv_iload_n hx hb dX11_mourner_73 rfl (lv_at hl 1 rfl) ?_
      obtain ⟨c7, hv⟩ := hv
      obtain ⟨c8, hv⟩ := hv
      refine r_iald hx hb hC hw 5 (gI_X (isS_f3 (by decide)) τ ad M1) c7 c8 (by decide) dX11_mourner_74 ?_
      refine r_top (fun x9 e9 => ?_)
      have g9 : iR x9 := by rw [e9]; exact hM.get (isS_f3 (by decide)).pos _
      have hv := hv x9 e9 g9
      refine vx_ret ?_
      refine W.widen (k := 1) (n := 6) (by omega) (by omega) ?_
      exact k_iret (wq_X τ ad) hx hb hr hlk hw hM g9 hv dX11_mourner_75
    · refine r_tblI (tgt := 76) hx hb dX11_mourner_23 hp2 (by omega) (by omega) (by rw [b3]; first | done | rfl) (by decide) ?_
      have hv := hv.2.2.1 b3
      refine lv_aload_n hx hb dX11_mourner_76 rfl (lv_at hl 0 rfl) ?_
      refine gf_X11_26 hx hb hC hw 155 (gX_155 τ ad M1) rfl dX11_mourner_77 ?_
      refine gf_X11_240 hx hb hC hw 1 (gS_X (by decide) τ ad M1) rfl dX11_mourner_80 ?_
      refine lv_iload_n hx hb dX11_mourner_83 rfl (lv_at hl 1 rfl) ?_
      obtain ⟨c10, hv⟩ := hv
      obtain ⟨c11, hv⟩ := hv
      refine r_iald hx hb hC hw 6 (gI_X (isS_f4 (by decide)) τ ad M1) c10 c11 (by decide) dX11_mourner_84 ?_
      refine r_top (fun x12 e12 => ?_)
      have g12 : iR x12 := by rw [e12]; exact hM.get (isS_f4 (by decide)).pos _
      have hv := hv x12 e12 g12
      refine vx_ret ?_
      refine W.widen (k := 1) (n := 6) (by omega) (by omega) ?_
      exact k_iret (wq_X τ ad) hx hb hr hlk hw hM g12 hv dX11_mourner_85
    · refine r_tblI (tgt := 86) hx hb dX11_mourner_23 hp2 (by omega) (by omega) (by rw [b3]; first | done | rfl) (by decide) ?_
      have hv := hv.2.2.2.1 b3
      refine lv_aload_n hx hb dX11_mourner_86 rfl (lv_at hl 0 rfl) ?_
      refine gf_X11_26 hx hb hC hw 155 (gX_155 τ ad M1) rfl dX11_mourner_87 ?_
      refine gf_X11_247 hx hb hC hw 1 (gS_X (by decide) τ ad M1) rfl dX11_mourner_90 ?_
      refine lv_iload_n hx hb dX11_mourner_93 rfl (lv_at hl 1 rfl) ?_
      obtain ⟨c13, hv⟩ := hv
      obtain ⟨c14, hv⟩ := hv
      refine r_iald hx hb hC hw 7 (gI_X (isS_f5 (by decide)) τ ad M1) c13 c14 (by decide) dX11_mourner_94 ?_
      refine r_top (fun x15 e15 => ?_)
      have g15 : iR x15 := by rw [e15]; exact hM.get (isS_f5 (by decide)).pos _
      have hv := hv x15 e15 g15
      refine vx_ret ?_
      refine W.widen (k := 1) (n := 6) (by omega) (by omega) ?_
      exact k_iret (wq_X τ ad) hx hb hr hlk hw hM g15 hv dX11_mourner_95
    · refine r_tblI (tgt := 96) hx hb dX11_mourner_23 hp2 (by omega) (by omega) (by rw [b3]; first | done | rfl) (by decide) ?_
      have hv := hv.2.2.2.2.1 b3
      refine lv_aload_n hx hb dX11_mourner_96 rfl (lv_at hl 0 rfl) ?_
      refine gf_X11_26 hx hb hC hw 155 (gX_155 τ ad M1) rfl dX11_mourner_97 ?_
      refine lv_aload_n hx hb dX11_mourner_100 rfl (lv_at hl 0 rfl) ?_
      refine gf_X11_26 hx hb hC hw 155 (gX_155 τ ad M1) rfl dX11_mourner_101 ?_
      refine gf_X11_270 hx hb hC hw 1 (gS_X (by decide) τ ad M1) rfl dX11_mourner_104 ?_
      refine lv_iload_n hx hb dX11_mourner_107 rfl (lv_at hl 1 rfl) ?_
      obtain ⟨c16, hv⟩ := hv
      obtain ⟨c17, hv⟩ := hv
      refine r_iald hx hb hC hw 4 (gI_X (isS_f2 (by decide)) τ ad M1) c16 c17 (by decide) dX11_mourner_108 ?_
      refine r_top (fun x18 e18 => ?_)
      have g18 : iR x18 := by rw [e18]; exact hM.get (isS_f2 (by decide)).pos _
      have hv := hv x18 e18 g18
      refine k_cVi (wq_X τ ad) hx hb hml hC hLS hA hw hl.1 (mX6_nearestTo l D τ ad sA sV _ 1 x18 (by decide) g18 M1 hM _ hv) kX6_nearestTo ml_X11_273 rfl (gS_X (by decide) τ ad M1) rfl rfl (Nat.le_of_ble_eq_true rfl) (rm_ok (by decide) (by decide)) ⟨by show _ ≤ 1; omega, by show _ ≤ 6; omega⟩ dX11_mourner_109 (fun x19 M19 H locs g19 hM hv hw => ?_)
      have hv := hv g19
      refine vx_ret ?_
      refine W.widen (k := 1) (n := 6) (by omega) (by omega) ?_
      exact k_iret (wq_X τ ad) hx hb hr hlk hw hM g19 hv dX11_mourner_112
    · refine r_tblO (tgt := 113) hx hb dX11_mourner_23 hp2 b3 (by decide) ?_
      have hv := hv.2.2.2.2.2 b3
      exact x_throwSW hx hb hst hml hlk hC hX.1 (hX.2.2.2.2.1) htab hw hM hv hl.1 (by decide) (Nat.le_of_ble_eq_true rfl) dX11_mourner_113 dX11_mourner_116 dX11_mourner_117 dX11_mourner_120 dX11_mourner_123
  · have hv := hv.2 b2
    exact x_throwSW hx hb hst hml hlk hC hX.1 (hX.2.2.2.1) htab hw hM hv hl.1 (by decide) (Nat.le_of_ble_eq_true rfl) dX11_mourner_11 dX11_mourner_14 dX11_mourner_15 dX11_mourner_18 dX11_mourner_21
set_option maxHeartbeats 4000000 in
set_option maxRecDepth 100000 in
theorem mX11_row (l : Launch) (hst : l.stackTraces = false) (D : va_G) (τ : Nat → ClassId) (ad : Nat → Nat) (sA sV : Nat → Nat) (sz : Nat) (p1 : Int) (hp1 : iR p1) (M : Mem) (hM : MR M) (Q : Int → Mem → Prop) (E : Mem → Prop) (hv : qX11_row p1 M Q E) : vx_Met l yX11_row (lw_w yX11_row cX11_row 2 (some .long)) (rmk 8 1 6) (xPc D τ sA sV (WX τ ad M) sz [.ref (ad 155), .int (iI p1)]) (gQl D (EQi (WX τ ad) MR Q) (va_A (WX τ ad M) sz)) (XCQ D (WX τ ad) E (va_A (WX τ ad M) sz)) 1 6 (va_A (WX τ ad M) sz) := by
  refine x_met (ret := (some .long)) (Qc := gQl D (EQi (WX τ ad) MR Q)) (XC := XCQ D (WX τ ad) E) (by decide +kernel) (Nat.le_of_ble_eq_true rfl) ?_
  intro p e s m args below meth c A ls hx hb hml hr hlk hC hLS hX htab hA hw hl
  have hC : cx D τ s m args RX11 := hC
  have hl : lv_has ls 2 [(0, .ref (ad 155)), (1, .int (iI p1))] := hl
  unfold qX11_row at hv
  refine lv_iload_n hx hb dX11_row_0 rfl (lv_at hl 1 rfl) ?_
  refine r_if_lt (tgt := 15) hx hb dX11_row_1 (by decide) hp1  (fun b1 => ?_) (fun b1 => ?_)
  · have hv := hv.1 b1
    exact x_throwSW hx hb hst hml hlk hC hX.1 (hX.2.2.2.2.2) htab hw hM hv hl.1 (by decide) (Nat.le_of_ble_eq_true rfl) dX11_row_15 dX11_row_18 dX11_row_19 dX11_row_22 dX11_row_25
  · have hv := hv.2 b1
    refine lv_iload_n hx hb dX11_row_4 rfl (lv_at hl 1 rfl) ?_
    refine lv_aload_n hx hb dX11_row_5 rfl (lv_at hl 0 rfl) ?_
    refine gf_X11_66 hx hb hC hw 155 (gX_155 τ ad M) rfl dX11_row_6 ?_
    refine gf_X11_359 hx hb hC hw 167 (gX_167 τ ad M) rfl dX11_row_9 ?_
    refine r_top (fun x2 e2 => ?_)
    have g2 : iR x2 := by rw [e2]; exact hM.get (by decide) _
    have hv := hv x2 e2 g2
    refine r_icmp_lt (tgt := 26) hx hb dX11_row_12 (by decide) hp1 g2 (fun b3 => ?_) (fun b3 => ?_)
    · have hv := hv.1 b3
      refine lv_aload_n hx hb dX11_row_26 rfl (lv_at hl 0 rfl) ?_
      refine gf_X11_66 hx hb hC hw 155 (gX_155 τ ad M) rfl dX11_row_27 ?_
      refine gf_X11_494 hx hb hC hw 167 (gX_167 τ ad M) rfl dX11_row_30 ?_
      refine lv_iload_n hx hb dX11_row_33 rfl (lv_at hl 1 rfl) ?_
      obtain ⟨c4, hv⟩ := hv
      obtain ⟨c5, hv⟩ := hv
      refine r_lald hx hb hC hw 0 (gJ_X aX_0 τ ad M) c4 c5 (by decide) dX11_row_34 ?_
      refine r_topL (fun x6 e6 => ?_)
      have g6 : lR x6 := by rw [e6]; exact hM.getL _
      have hv := hv x6 e6 g6
      refine vx_ret ?_
      refine W.widen (k := 1) (n := 6) (by omega) (by omega) ?_
      exact k_lret (wq_X τ ad) hx hb hr hlk hw hM g6 hv dX11_row_35
    · have hv := hv.2 b3
      exact x_throwSW hx hb hst hml hlk hC hX.1 (hX.2.2.2.2.2) htab hw hM hv hl.1 (by decide) (Nat.le_of_ble_eq_true rfl) dX11_row_15 dX11_row_18 dX11_row_19 dX11_row_22 dX11_row_25
end
section
abbrev W_c_Text_init (τ : Nat → ClassId) (h0 : Nat) : va_W := [(h0, .inr (10, [.null, .int (iI 0), .int (iI 0), .int (iI 0)]))]
abbrev E_c_Text_init (τ : Nat → ClassId) (h0 : Nat) : va_W → Prop := fun w => ∃ (a0 : Nat), (True) ∧ w = [(h0, .inr (10, [.ref a0, .int (iI 0), .int (iI 0), .int (iI 0)])), (a0, .inl (τ 0, 80, .inl (ar (fun _ => 0))))]
set_option maxHeartbeats 4000000 in
set_option maxRecDepth 100000 in
theorem c_Text_init (l : Launch) (D : va_G) (τ : Nat → ClassId) (sz : Nat) (h0 : Nat)  : Met l yX9_init (lw_w yX9_init cX9_init 1 none) (rmk 1 1 80) (gPc D τ (W_c_Text_init τ h0) sz [.ref h0]) (gQv D (E_c_Text_init τ h0) (va_A (W_c_Text_init τ h0) sz)) 1 80 (va_A (W_c_Text_init τ h0) sz) := by
  refine g_met (ret := none) (Qc := gQv D (E_c_Text_init τ h0)) (by decide +kernel) (Nat.le_of_ble_eq_true rfl) ?_
  intro p e s m args below meth c A ls hx hb hml hr hlk hnm hC hA hw hl
  have hC : cx D τ s m args RX9 := hC
  have hl : lv_has ls 1 [(0, .ref h0)] := hl
  have hw : wS D A s.heap [(h0, .inr (10, [.null, .int (iI 0), .int (iI 0), .int (iI 0)]))] s.heap [] := hw
  refine lv_aload_n hx hb dX9_init_0 rfl (lv_at hl 0 rfl) ?_
  refine r_objInit hx hb hml hC hl.1 ml_X9_3 im_init cd_init (by decide) (Nat.le_of_ble_eq_true rfl) (by decide) dX9_init_1 ?_
  refine lv_aload_n hx hb dX9_init_4 rfl (lv_at hl 0 rfl) ?_
  refine r_bipush hx hb dX9_init_5 (by decide +kernel) ?_
  refine r_newi (N := 80) hx hb hC hA hw ac_int (by decide) (by decide) (by decide) (by decide) rfl rfl dX9_init_7 (fun a1 H hw => ?_)
  have hw : wS D A s.heap [(h0, .inr (10, [.null, .int (iI 0), .int (iI 0), .int (iI 0)])), (a1, .inl (τ 0, 80, .inl (ar (fun _ => 0))))] H _ := hw
  refine pf_X9_9 (ws' := [(h0, .inr (10, [.ref a1, .int (iI 0), .int (iI 0), .int (iI 0)])), (a1, .inl (τ 0, 80, .inl (ar (fun _ => 0))))]) hx hb hC hw hnm 0 rfl (Nat.le_of_ble_eq_true rfl) rfl dX9_init_9 (fun H locs hw => ?_)
  refine lv_aload_n hx hb dX9_init_12 rfl (lv_at hl 0 rfl) ?_
  refine r_iconst hx hb dX9_init_13 ?_
  refine pf_X9_15 (ws' := [(h0, .inr (10, [.ref a1, .int (iI 0), .int (iI 0), .int (iI 0)])), (a1, .inl (τ 0, 80, .inl (ar (fun _ => 0))))]) hx hb hC hw 0 rfl (Nat.le_of_ble_eq_true rfl) rfl dX9_init_14 (fun H locs hw => ?_)
  refine lv_aload_n hx hb dX9_init_17 rfl (lv_at hl 0 rfl) ?_
  refine r_iconst hx hb dX9_init_18 ?_
  refine pf_X9_19 (ws' := [(h0, .inr (10, [.ref a1, .int (iI 0), .int (iI 0), .int (iI 0)])), (a1, .inl (τ 0, 80, .inl (ar (fun _ => 0))))]) hx hb hC hw 0 rfl (Nat.le_of_ble_eq_true rfl) rfl dX9_init_19 (fun H locs hw => ?_)
  refine lv_aload_n hx hb dX9_init_22 rfl (lv_at hl 0 rfl) ?_
  refine r_iconst hx hb dX9_init_23 ?_
  refine pf_X9_22 (ws' := [(h0, .inr (10, [.ref a1, .int (iI 0), .int (iI 0), .int (iI 0)])), (a1, .inl (τ 0, 80, .inl (ar (fun _ => 0))))]) hx hb hC hw 0 rfl (Nat.le_of_ble_eq_true rfl) rfl dX9_init_24 (fun H locs hw => ?_)
  exact r_vret hx hb hr hlk hw [(h0, .inr (10, [.ref a1, .int (iI 0), .int (iI 0), .int (iI 0)])), (a1, .inl (τ 0, 80, .inl (ar (fun _ => 0))))] [0, 1] rfl (by decide) ⟨a1, trivial, rfl⟩ dX9_init_27
abbrev W_c_Row_init (τ : Nat → ClassId) (h0 : Nat) : va_W := [(h0, .inr (5, [.null, .int (iI 0)]))]
abbrev E_c_Row_init (τ : Nat → ClassId) (h0 : Nat) : va_W → Prop := fun w => ∃ (a0 : Nat), (True) ∧ w = [(h0, .inr (5, [.ref a0, .int (iI 0)])), (a0, .inl (τ 1, 8, .inr (.inl (arL (fun _ => 0)))))]
set_option maxHeartbeats 4000000 in
set_option maxRecDepth 100000 in
theorem c_Row_init (l : Launch) (D : va_G) (τ : Nat → ClassId) (sz : Nat) (h0 : Nat)  : Met l yX4_init (lw_w yX4_init cX4_init 1 none) (rmk 1 1 8) (gPc D τ (W_c_Row_init τ h0) sz [.ref h0]) (gQv D (E_c_Row_init τ h0) (va_A (W_c_Row_init τ h0) sz)) 1 8 (va_A (W_c_Row_init τ h0) sz) := by
  refine g_met (ret := none) (Qc := gQv D (E_c_Row_init τ h0)) (by decide +kernel) (Nat.le_of_ble_eq_true rfl) ?_
  intro p e s m args below meth c A ls hx hb hml hr hlk hnm hC hA hw hl
  have hC : cx D τ s m args RX4 := hC
  have hl : lv_has ls 1 [(0, .ref h0)] := hl
  have hw : wS D A s.heap [(h0, .inr (5, [.null, .int (iI 0)]))] s.heap [] := hw
  refine lv_aload_n hx hb dX4_init_0 rfl (lv_at hl 0 rfl) ?_
  refine r_objInit hx hb hml hC hl.1 ml_X4_3 im_init cd_init (by decide) (Nat.le_of_ble_eq_true rfl) (by decide) dX4_init_1 ?_
  refine lv_aload_n hx hb dX4_init_4 rfl (lv_at hl 0 rfl) ?_
  refine r_bipush hx hb dX4_init_5 (by decide +kernel) ?_
  refine r_newl (N := 8) hx hb hC hA hw ac_long (by decide) (by decide) (by decide) (by decide) rfl rfl dX4_init_7 (fun a1 H hw => ?_)
  have hw : wS D A s.heap [(h0, .inr (5, [.null, .int (iI 0)])), (a1, .inl (τ 1, 8, .inr (.inl (arL (fun _ => 0)))))] H _ := hw
  refine pf_X4_9 (ws' := [(h0, .inr (5, [.ref a1, .int (iI 0)])), (a1, .inl (τ 1, 8, .inr (.inl (arL (fun _ => 0)))))]) hx hb hC hw hnm 0 rfl (Nat.le_of_ble_eq_true rfl) rfl dX4_init_9 (fun H locs hw => ?_)
  refine lv_aload_n hx hb dX4_init_12 rfl (lv_at hl 0 rfl) ?_
  refine r_iconst hx hb dX4_init_13 ?_
  refine pf_X4_15 (ws' := [(h0, .inr (5, [.ref a1, .int (iI 0)])), (a1, .inl (τ 1, 8, .inr (.inl (arL (fun _ => 0)))))]) hx hb hC hw 0 rfl (Nat.le_of_ble_eq_true rfl) rfl dX4_init_14 (fun H locs hw => ?_)
  exact r_vret hx hb hr hlk hw [(h0, .inr (5, [.ref a1, .int (iI 0)])), (a1, .inl (τ 1, 8, .inr (.inl (arL (fun _ => 0)))))] [0, 1] rfl (by decide) ⟨a1, trivial, rfl⟩ dX4_init_17
abbrev W_c_Street_init (τ : Nat → ClassId) (h8 : Nat) : va_W := [(h8, .inr (9, [.null, .int (iI 0), .int (iI 0), .int (iI 0)]))]
abbrev E_c_Street_init (τ : Nat → ClassId) (h8 : Nat) : va_W → Prop := fun w => ∃ (d8 : Nat), (True) ∧ w = [(h8, .inr (9, [.ref d8, .int (iI 4), .int (iI 0), .int (iI 1)])), (d8, .inl (τ 0, 20, .inl (ar (fun _ => 0))))]
set_option maxHeartbeats 4000000 in
set_option maxRecDepth 100000 in
theorem c_Street_init (l : Launch) (D : va_G) (τ : Nat → ClassId) (sz : Nat) (h8 : Nat)  : Met l yX8_init (lw_w yX8_init cX8_init 1 none) (rmk 1 1 20) (gPc D τ (W_c_Street_init τ h8) sz [.ref h8]) (gQv D (E_c_Street_init τ h8) (va_A (W_c_Street_init τ h8) sz)) 1 20 (va_A (W_c_Street_init τ h8) sz) := by
  refine g_met (ret := none) (Qc := gQv D (E_c_Street_init τ h8)) (by decide +kernel) (Nat.le_of_ble_eq_true rfl) ?_
  intro p e s m args below meth c A ls hx hb hml hr hlk hnm hC hA hw hl
  have hC : cx D τ s m args RX8 := hC
  have hl : lv_has ls 1 [(0, .ref h8)] := hl
  have hw : wS D A s.heap [(h8, .inr (9, [.null, .int (iI 0), .int (iI 0), .int (iI 0)]))] s.heap [] := hw
  refine lv_aload_n hx hb dX8_init_0 rfl (lv_at hl 0 rfl) ?_
  refine r_objInit hx hb hml hC hl.1 ml_X8_3 im_init cd_init (by decide) (Nat.le_of_ble_eq_true rfl) (by decide) dX8_init_1 ?_
  refine lv_aload_n hx hb dX8_init_4 rfl (lv_at hl 0 rfl) ?_
  refine r_bipush hx hb dX8_init_5 (by decide +kernel) ?_
  refine r_newi (N := 20) hx hb hC hA hw ac_int (by decide) (by decide) (by decide) (by decide) rfl rfl dX8_init_7 (fun a1 H hw => ?_)
  have hw : wS D A s.heap [(h8, .inr (9, [.null, .int (iI 0), .int (iI 0), .int (iI 0)])), (a1, .inl (τ 0, 20, .inl (ar (fun _ => 0))))] H _ := hw
  refine pf_X8_9 (ws' := [(h8, .inr (9, [.ref a1, .int (iI 0), .int (iI 0), .int (iI 0)])), (a1, .inl (τ 0, 20, .inl (ar (fun _ => 0))))]) hx hb hC hw hnm 0 rfl (Nat.le_of_ble_eq_true rfl) rfl dX8_init_9 (fun H locs hw => ?_)
  refine lv_aload_n hx hb dX8_init_12 rfl (lv_at hl 0 rfl) ?_
  refine r_iconst hx hb dX8_init_13 ?_
  refine pf_X8_15 (ws' := [(h8, .inr (9, [.ref a1, .int (iI 4), .int (iI 0), .int (iI 0)])), (a1, .inl (τ 0, 20, .inl (ar (fun _ => 0))))]) hx hb hC hw 0 rfl (Nat.le_of_ble_eq_true rfl) rfl dX8_init_14 (fun H locs hw => ?_)
  refine lv_aload_n hx hb dX8_init_17 rfl (lv_at hl 0 rfl) ?_
  refine r_iconst hx hb dX8_init_18 ?_
  refine pf_X8_19 (ws' := [(h8, .inr (9, [.ref a1, .int (iI 4), .int (iI 0), .int (iI 0)])), (a1, .inl (τ 0, 20, .inl (ar (fun _ => 0))))]) hx hb hC hw 0 rfl (Nat.le_of_ble_eq_true rfl) rfl dX8_init_19 (fun H locs hw => ?_)
  refine lv_aload_n hx hb dX8_init_22 rfl (lv_at hl 0 rfl) ?_
  refine r_iconst hx hb dX8_init_23 ?_
  refine pf_X8_22 (ws' := [(h8, .inr (9, [.ref a1, .int (iI 4), .int (iI 0), .int (iI 1)])), (a1, .inl (τ 0, 20, .inl (ar (fun _ => 0))))]) hx hb hC hw 0 rfl (Nat.le_of_ble_eq_true rfl) rfl dX8_init_24 (fun H locs hw => ?_)
  exact r_vret hx hb hr hlk hw [(h8, .inr (9, [.ref a1, .int (iI 4), .int (iI 0), .int (iI 1)])), (a1, .inl (τ 0, 20, .inl (ar (fun _ => 0))))] [0, 1] rfl (by decide) ⟨a1, trivial, rfl⟩ dX8_init_27
abbrev W_c_Scene_init (τ : Nat → ClassId) (h0 : Nat) : va_W := [(h0, .inr (7, [.null, .null, .null, .null, .null, .null, .int (iI 0), .int (iI 0), .int (iI 0), .int (iI 0), .int (iI 0)]))]
abbrev E_c_Scene_init (τ : Nat → ClassId) (h0 : Nat) : va_W → Prop := fun w => ∃ (c0 : Nat), ∃ (k0 : Nat), ∃ (p0 : Nat), ∃ (o0 : Nat), ∃ (f0 : Nat), ∃ (g0 : Nat), (True) ∧ w = [(h0, .inr (7, [.ref c0, .ref k0, .ref p0, .ref o0, .ref f0, .ref g0, .int (iI 0), .int (iI 0), .int (iI 0), .int (iI 0), .int (iI 0)])), (c0, .inl (τ 0, 6, .inl (ar (fun _ => 0)))), (k0, .inl (τ 0, 6, .inl (ar (fun _ => 0)))), (p0, .inl (τ 0, 8, .inl (ar (fun _ => 0)))), (o0, .inl (τ 0, 8, .inl (ar (fun _ => 0)))), (f0, .inl (τ 0, 8, .inl (ar (fun _ => 0)))), (g0, .inl (τ 0, 8, .inl (ar (fun _ => 0))))]
set_option maxHeartbeats 4000000 in
set_option maxRecDepth 100000 in
theorem c_Scene_init (l : Launch) (D : va_G) (τ : Nat → ClassId) (sz : Nat) (h0 : Nat)  : Met l yX6_init (lw_w yX6_init cX6_init 1 none) (rmk 1 6 44) (gPc D τ (W_c_Scene_init τ h0) sz [.ref h0]) (gQv D (E_c_Scene_init τ h0) (va_A (W_c_Scene_init τ h0) sz)) 6 44 (va_A (W_c_Scene_init τ h0) sz) := by
  refine g_met (ret := none) (Qc := gQv D (E_c_Scene_init τ h0)) (by decide +kernel) (Nat.le_of_ble_eq_true rfl) ?_
  intro p e s m args below meth c A ls hx hb hml hr hlk hnm hC hA hw hl
  have hC : cx D τ s m args RX6 := hC
  have hl : lv_has ls 1 [(0, .ref h0)] := hl
  have hw : wS D A s.heap [(h0, .inr (7, [.null, .null, .null, .null, .null, .null, .int (iI 0), .int (iI 0), .int (iI 0), .int (iI 0), .int (iI 0)]))] s.heap [] := hw
  refine lv_aload_n hx hb dX6_init_0 rfl (lv_at hl 0 rfl) ?_
  refine r_objInit hx hb hml hC hl.1 ml_X6_3 im_init cd_init (by decide) (Nat.le_of_ble_eq_true rfl) (by decide) dX6_init_1 ?_
  refine lv_aload_n hx hb dX6_init_4 rfl (lv_at hl 0 rfl) ?_
  refine r_bipush hx hb dX6_init_5 (by decide +kernel) ?_
  refine r_newi (N := 6) hx hb hC hA hw ac_int (by decide) (by decide) (by decide) (by decide) rfl rfl dX6_init_7 (fun a1 H hw => ?_)
  have hw : wS D A s.heap [(h0, .inr (7, [.null, .null, .null, .null, .null, .null, .int (iI 0), .int (iI 0), .int (iI 0), .int (iI 0), .int (iI 0)])), (a1, .inl (τ 0, 6, .inl (ar (fun _ => 0))))] H _ := hw
  refine pf_X6_9 (ws' := [(h0, .inr (7, [.ref a1, .null, .null, .null, .null, .null, .int (iI 0), .int (iI 0), .int (iI 0), .int (iI 0), .int (iI 0)])), (a1, .inl (τ 0, 6, .inl (ar (fun _ => 0))))]) hx hb hC hw hnm 0 rfl (Nat.le_of_ble_eq_true rfl) rfl dX6_init_9 (fun H locs hw => ?_)
  refine lv_aload_n hx hb dX6_init_12 rfl (lv_at hl 0 rfl) ?_
  refine r_bipush hx hb dX6_init_13 (by decide +kernel) ?_
  refine r_newi (N := 6) hx hb hC hA hw ac_int (by decide) (by decide) (by decide) (by decide) rfl rfl dX6_init_15 (fun a2 H hw => ?_)
  have hw : wS D A s.heap [(h0, .inr (7, [.ref a1, .null, .null, .null, .null, .null, .int (iI 0), .int (iI 0), .int (iI 0), .int (iI 0), .int (iI 0)])), (a1, .inl (τ 0, 6, .inl (ar (fun _ => 0)))), (a2, .inl (τ 0, 6, .inl (ar (fun _ => 0))))] H _ := hw
  refine pf_X6_15 (ws' := [(h0, .inr (7, [.ref a1, .ref a2, .null, .null, .null, .null, .int (iI 0), .int (iI 0), .int (iI 0), .int (iI 0), .int (iI 0)])), (a1, .inl (τ 0, 6, .inl (ar (fun _ => 0)))), (a2, .inl (τ 0, 6, .inl (ar (fun _ => 0))))]) hx hb hC hw hnm 0 rfl (Nat.le_of_ble_eq_true rfl) rfl dX6_init_17 (fun H locs hw => ?_)
  refine lv_aload_n hx hb dX6_init_20 rfl (lv_at hl 0 rfl) ?_
  refine r_bipush hx hb dX6_init_21 (by decide +kernel) ?_
  refine r_newi (N := 8) hx hb hC hA hw ac_int (by decide) (by decide) (by decide) (by decide) rfl rfl dX6_init_23 (fun a3 H hw => ?_)
  have hw : wS D A s.heap [(h0, .inr (7, [.ref a1, .ref a2, .null, .null, .null, .null, .int (iI 0), .int (iI 0), .int (iI 0), .int (iI 0), .int (iI 0)])), (a1, .inl (τ 0, 6, .inl (ar (fun _ => 0)))), (a2, .inl (τ 0, 6, .inl (ar (fun _ => 0)))), (a3, .inl (τ 0, 8, .inl (ar (fun _ => 0))))] H _ := hw
  refine pf_X6_18 (ws' := [(h0, .inr (7, [.ref a1, .ref a2, .ref a3, .null, .null, .null, .int (iI 0), .int (iI 0), .int (iI 0), .int (iI 0), .int (iI 0)])), (a1, .inl (τ 0, 6, .inl (ar (fun _ => 0)))), (a2, .inl (τ 0, 6, .inl (ar (fun _ => 0)))), (a3, .inl (τ 0, 8, .inl (ar (fun _ => 0))))]) hx hb hC hw hnm 0 rfl (Nat.le_of_ble_eq_true rfl) rfl dX6_init_25 (fun H locs hw => ?_)
  refine lv_aload_n hx hb dX6_init_28 rfl (lv_at hl 0 rfl) ?_
  refine r_bipush hx hb dX6_init_29 (by decide +kernel) ?_
  refine r_newi (N := 8) hx hb hC hA hw ac_int (by decide) (by decide) (by decide) (by decide) rfl rfl dX6_init_31 (fun a4 H hw => ?_)
  have hw : wS D A s.heap [(h0, .inr (7, [.ref a1, .ref a2, .ref a3, .null, .null, .null, .int (iI 0), .int (iI 0), .int (iI 0), .int (iI 0), .int (iI 0)])), (a1, .inl (τ 0, 6, .inl (ar (fun _ => 0)))), (a2, .inl (τ 0, 6, .inl (ar (fun _ => 0)))), (a3, .inl (τ 0, 8, .inl (ar (fun _ => 0)))), (a4, .inl (τ 0, 8, .inl (ar (fun _ => 0))))] H _ := hw
  refine pf_X6_21 (ws' := [(h0, .inr (7, [.ref a1, .ref a2, .ref a3, .ref a4, .null, .null, .int (iI 0), .int (iI 0), .int (iI 0), .int (iI 0), .int (iI 0)])), (a1, .inl (τ 0, 6, .inl (ar (fun _ => 0)))), (a2, .inl (τ 0, 6, .inl (ar (fun _ => 0)))), (a3, .inl (τ 0, 8, .inl (ar (fun _ => 0)))), (a4, .inl (τ 0, 8, .inl (ar (fun _ => 0))))]) hx hb hC hw hnm 0 rfl (Nat.le_of_ble_eq_true rfl) rfl dX6_init_33 (fun H locs hw => ?_)
  refine lv_aload_n hx hb dX6_init_36 rfl (lv_at hl 0 rfl) ?_
  refine r_bipush hx hb dX6_init_37 (by decide +kernel) ?_
  refine r_newi (N := 8) hx hb hC hA hw ac_int (by decide) (by decide) (by decide) (by decide) rfl rfl dX6_init_39 (fun a5 H hw => ?_)
  have hw : wS D A s.heap [(h0, .inr (7, [.ref a1, .ref a2, .ref a3, .ref a4, .null, .null, .int (iI 0), .int (iI 0), .int (iI 0), .int (iI 0), .int (iI 0)])), (a1, .inl (τ 0, 6, .inl (ar (fun _ => 0)))), (a2, .inl (τ 0, 6, .inl (ar (fun _ => 0)))), (a3, .inl (τ 0, 8, .inl (ar (fun _ => 0)))), (a4, .inl (τ 0, 8, .inl (ar (fun _ => 0)))), (a5, .inl (τ 0, 8, .inl (ar (fun _ => 0))))] H _ := hw
  refine pf_X6_24 (ws' := [(h0, .inr (7, [.ref a1, .ref a2, .ref a3, .ref a4, .ref a5, .null, .int (iI 0), .int (iI 0), .int (iI 0), .int (iI 0), .int (iI 0)])), (a1, .inl (τ 0, 6, .inl (ar (fun _ => 0)))), (a2, .inl (τ 0, 6, .inl (ar (fun _ => 0)))), (a3, .inl (τ 0, 8, .inl (ar (fun _ => 0)))), (a4, .inl (τ 0, 8, .inl (ar (fun _ => 0)))), (a5, .inl (τ 0, 8, .inl (ar (fun _ => 0))))]) hx hb hC hw hnm 0 rfl (Nat.le_of_ble_eq_true rfl) rfl dX6_init_41 (fun H locs hw => ?_)
  refine lv_aload_n hx hb dX6_init_44 rfl (lv_at hl 0 rfl) ?_
  refine r_bipush hx hb dX6_init_45 (by decide +kernel) ?_
  refine r_newi (N := 8) hx hb hC hA hw ac_int (by decide) (by decide) (by decide) (by decide) rfl rfl dX6_init_47 (fun a6 H hw => ?_)
  have hw : wS D A s.heap [(h0, .inr (7, [.ref a1, .ref a2, .ref a3, .ref a4, .ref a5, .null, .int (iI 0), .int (iI 0), .int (iI 0), .int (iI 0), .int (iI 0)])), (a1, .inl (τ 0, 6, .inl (ar (fun _ => 0)))), (a2, .inl (τ 0, 6, .inl (ar (fun _ => 0)))), (a3, .inl (τ 0, 8, .inl (ar (fun _ => 0)))), (a4, .inl (τ 0, 8, .inl (ar (fun _ => 0)))), (a5, .inl (τ 0, 8, .inl (ar (fun _ => 0)))), (a6, .inl (τ 0, 8, .inl (ar (fun _ => 0))))] H _ := hw
  refine pf_X6_27 (ws' := [(h0, .inr (7, [.ref a1, .ref a2, .ref a3, .ref a4, .ref a5, .ref a6, .int (iI 0), .int (iI 0), .int (iI 0), .int (iI 0), .int (iI 0)])), (a1, .inl (τ 0, 6, .inl (ar (fun _ => 0)))), (a2, .inl (τ 0, 6, .inl (ar (fun _ => 0)))), (a3, .inl (τ 0, 8, .inl (ar (fun _ => 0)))), (a4, .inl (τ 0, 8, .inl (ar (fun _ => 0)))), (a5, .inl (τ 0, 8, .inl (ar (fun _ => 0)))), (a6, .inl (τ 0, 8, .inl (ar (fun _ => 0))))]) hx hb hC hw hnm 0 rfl (Nat.le_of_ble_eq_true rfl) rfl dX6_init_49 (fun H locs hw => ?_)
  refine lv_aload_n hx hb dX6_init_52 rfl (lv_at hl 0 rfl) ?_
  refine r_iconst hx hb dX6_init_53 ?_
  refine pf_X6_30 (ws' := [(h0, .inr (7, [.ref a1, .ref a2, .ref a3, .ref a4, .ref a5, .ref a6, .int (iI 0), .int (iI 0), .int (iI 0), .int (iI 0), .int (iI 0)])), (a1, .inl (τ 0, 6, .inl (ar (fun _ => 0)))), (a2, .inl (τ 0, 6, .inl (ar (fun _ => 0)))), (a3, .inl (τ 0, 8, .inl (ar (fun _ => 0)))), (a4, .inl (τ 0, 8, .inl (ar (fun _ => 0)))), (a5, .inl (τ 0, 8, .inl (ar (fun _ => 0)))), (a6, .inl (τ 0, 8, .inl (ar (fun _ => 0))))]) hx hb hC hw 0 rfl (Nat.le_of_ble_eq_true rfl) rfl dX6_init_54 (fun H locs hw => ?_)
  refine lv_aload_n hx hb dX6_init_57 rfl (lv_at hl 0 rfl) ?_
  refine r_iconst hx hb dX6_init_58 ?_
  refine pf_X6_34 (ws' := [(h0, .inr (7, [.ref a1, .ref a2, .ref a3, .ref a4, .ref a5, .ref a6, .int (iI 0), .int (iI 0), .int (iI 0), .int (iI 0), .int (iI 0)])), (a1, .inl (τ 0, 6, .inl (ar (fun _ => 0)))), (a2, .inl (τ 0, 6, .inl (ar (fun _ => 0)))), (a3, .inl (τ 0, 8, .inl (ar (fun _ => 0)))), (a4, .inl (τ 0, 8, .inl (ar (fun _ => 0)))), (a5, .inl (τ 0, 8, .inl (ar (fun _ => 0)))), (a6, .inl (τ 0, 8, .inl (ar (fun _ => 0))))]) hx hb hC hw 0 rfl (Nat.le_of_ble_eq_true rfl) rfl dX6_init_59 (fun H locs hw => ?_)
  refine lv_aload_n hx hb dX6_init_62 rfl (lv_at hl 0 rfl) ?_
  refine r_iconst hx hb dX6_init_63 ?_
  refine pf_X6_37 (ws' := [(h0, .inr (7, [.ref a1, .ref a2, .ref a3, .ref a4, .ref a5, .ref a6, .int (iI 0), .int (iI 0), .int (iI 0), .int (iI 0), .int (iI 0)])), (a1, .inl (τ 0, 6, .inl (ar (fun _ => 0)))), (a2, .inl (τ 0, 6, .inl (ar (fun _ => 0)))), (a3, .inl (τ 0, 8, .inl (ar (fun _ => 0)))), (a4, .inl (τ 0, 8, .inl (ar (fun _ => 0)))), (a5, .inl (τ 0, 8, .inl (ar (fun _ => 0)))), (a6, .inl (τ 0, 8, .inl (ar (fun _ => 0))))]) hx hb hC hw 0 rfl (Nat.le_of_ble_eq_true rfl) rfl dX6_init_64 (fun H locs hw => ?_)
  refine lv_aload_n hx hb dX6_init_67 rfl (lv_at hl 0 rfl) ?_
  refine r_iconst hx hb dX6_init_68 ?_
  refine pf_X6_40 (ws' := [(h0, .inr (7, [.ref a1, .ref a2, .ref a3, .ref a4, .ref a5, .ref a6, .int (iI 0), .int (iI 0), .int (iI 0), .int (iI 0), .int (iI 0)])), (a1, .inl (τ 0, 6, .inl (ar (fun _ => 0)))), (a2, .inl (τ 0, 6, .inl (ar (fun _ => 0)))), (a3, .inl (τ 0, 8, .inl (ar (fun _ => 0)))), (a4, .inl (τ 0, 8, .inl (ar (fun _ => 0)))), (a5, .inl (τ 0, 8, .inl (ar (fun _ => 0)))), (a6, .inl (τ 0, 8, .inl (ar (fun _ => 0))))]) hx hb hC hw 0 rfl (Nat.le_of_ble_eq_true rfl) rfl dX6_init_69 (fun H locs hw => ?_)
  refine lv_aload_n hx hb dX6_init_72 rfl (lv_at hl 0 rfl) ?_
  refine r_iconst hx hb dX6_init_73 ?_
  refine pf_X6_43 (ws' := [(h0, .inr (7, [.ref a1, .ref a2, .ref a3, .ref a4, .ref a5, .ref a6, .int (iI 0), .int (iI 0), .int (iI 0), .int (iI 0), .int (iI 0)])), (a1, .inl (τ 0, 6, .inl (ar (fun _ => 0)))), (a2, .inl (τ 0, 6, .inl (ar (fun _ => 0)))), (a3, .inl (τ 0, 8, .inl (ar (fun _ => 0)))), (a4, .inl (τ 0, 8, .inl (ar (fun _ => 0)))), (a5, .inl (τ 0, 8, .inl (ar (fun _ => 0)))), (a6, .inl (τ 0, 8, .inl (ar (fun _ => 0))))]) hx hb hC hw 0 rfl (Nat.le_of_ble_eq_true rfl) rfl dX6_init_74 (fun H locs hw => ?_)
  exact r_vret hx hb hr hlk hw [(h0, .inr (7, [.ref a1, .ref a2, .ref a3, .ref a4, .ref a5, .ref a6, .int (iI 0), .int (iI 0), .int (iI 0), .int (iI 0), .int (iI 0)])), (a1, .inl (τ 0, 6, .inl (ar (fun _ => 0)))), (a2, .inl (τ 0, 6, .inl (ar (fun _ => 0)))), (a3, .inl (τ 0, 8, .inl (ar (fun _ => 0)))), (a4, .inl (τ 0, 8, .inl (ar (fun _ => 0)))), (a5, .inl (τ 0, 8, .inl (ar (fun _ => 0)))), (a6, .inl (τ 0, 8, .inl (ar (fun _ => 0))))] [0, 1, 2, 3, 4, 5, 6] rfl (by decide) ⟨a1, a2, a3, a4, a5, a6, trivial, rfl⟩ dX6_init_77
abbrev W_c_Law_init (τ : Nat → ClassId) (h2 : Nat) : va_W := [(h2, .inr (3, [.null, .null, .null, .null, .int (iI 0), .int (iI 0)]))]
abbrev E_c_Law_init (τ : Nat → ClassId) (h2 : Nat) : va_W → Prop := fun w => ∃ (ka2 : Nat), ∃ (va2 : Nat), ∃ (sa2 : Nat), ∃ (ga2 : Nat), (True) ∧ w = [(h2, .inr (3, [.ref ka2, .ref va2, .ref sa2, .ref ga2, .int (iI 0), .int (iI 0)])), (ka2, .inl (τ 0, 40, .inl (ar (fun _ => 0)))), (va2, .inl (τ 0, 40, .inl (ar (fun _ => 0)))), (sa2, .inl (τ 0, 40, .inl (ar (fun _ => 0)))), (ga2, .inl (τ 0, 7, .inl (ar (fun _ => 0))))]
set_option maxHeartbeats 4000000 in
set_option maxRecDepth 100000 in
theorem c_Law_init (l : Launch) (D : va_G) (τ : Nat → ClassId) (sz : Nat) (h2 : Nat)  : Met l yX2_init (lw_w yX2_init cX2_init 1 none) (rmk 1 4 127) (gPc D τ (W_c_Law_init τ h2) sz [.ref h2]) (gQv D (E_c_Law_init τ h2) (va_A (W_c_Law_init τ h2) sz)) 4 127 (va_A (W_c_Law_init τ h2) sz) := by
  refine g_met (ret := none) (Qc := gQv D (E_c_Law_init τ h2)) (by decide +kernel) (Nat.le_of_ble_eq_true rfl) ?_
  intro p e s m args below meth c A ls hx hb hml hr hlk hnm hC hA hw hl
  have hC : cx D τ s m args RX2 := hC
  have hl : lv_has ls 1 [(0, .ref h2)] := hl
  have hw : wS D A s.heap [(h2, .inr (3, [.null, .null, .null, .null, .int (iI 0), .int (iI 0)]))] s.heap [] := hw
  refine lv_aload_n hx hb dX2_init_0 rfl (lv_at hl 0 rfl) ?_
  refine r_objInit hx hb hml hC hl.1 ml_X2_3 im_init cd_init (by decide) (Nat.le_of_ble_eq_true rfl) (by decide) dX2_init_1 ?_
  refine lv_aload_n hx hb dX2_init_4 rfl (lv_at hl 0 rfl) ?_
  refine r_bipush hx hb dX2_init_5 (by decide +kernel) ?_
  refine r_newi (N := 40) hx hb hC hA hw ac_int (by decide) (by decide) (by decide) (by decide) rfl rfl dX2_init_7 (fun a1 H hw => ?_)
  have hw : wS D A s.heap [(h2, .inr (3, [.null, .null, .null, .null, .int (iI 0), .int (iI 0)])), (a1, .inl (τ 0, 40, .inl (ar (fun _ => 0))))] H _ := hw
  refine pf_X2_9 (ws' := [(h2, .inr (3, [.ref a1, .null, .null, .null, .int (iI 0), .int (iI 0)])), (a1, .inl (τ 0, 40, .inl (ar (fun _ => 0))))]) hx hb hC hw hnm 0 rfl (Nat.le_of_ble_eq_true rfl) rfl dX2_init_9 (fun H locs hw => ?_)
  refine lv_aload_n hx hb dX2_init_12 rfl (lv_at hl 0 rfl) ?_
  refine r_bipush hx hb dX2_init_13 (by decide +kernel) ?_
  refine r_newi (N := 40) hx hb hC hA hw ac_int (by decide) (by decide) (by decide) (by decide) rfl rfl dX2_init_15 (fun a2 H hw => ?_)
  have hw : wS D A s.heap [(h2, .inr (3, [.ref a1, .null, .null, .null, .int (iI 0), .int (iI 0)])), (a1, .inl (τ 0, 40, .inl (ar (fun _ => 0)))), (a2, .inl (τ 0, 40, .inl (ar (fun _ => 0))))] H _ := hw
  refine pf_X2_15 (ws' := [(h2, .inr (3, [.ref a1, .ref a2, .null, .null, .int (iI 0), .int (iI 0)])), (a1, .inl (τ 0, 40, .inl (ar (fun _ => 0)))), (a2, .inl (τ 0, 40, .inl (ar (fun _ => 0))))]) hx hb hC hw hnm 0 rfl (Nat.le_of_ble_eq_true rfl) rfl dX2_init_17 (fun H locs hw => ?_)
  refine lv_aload_n hx hb dX2_init_20 rfl (lv_at hl 0 rfl) ?_
  refine r_bipush hx hb dX2_init_21 (by decide +kernel) ?_
  refine r_newi (N := 40) hx hb hC hA hw ac_int (by decide) (by decide) (by decide) (by decide) rfl rfl dX2_init_23 (fun a3 H hw => ?_)
  have hw : wS D A s.heap [(h2, .inr (3, [.ref a1, .ref a2, .null, .null, .int (iI 0), .int (iI 0)])), (a1, .inl (τ 0, 40, .inl (ar (fun _ => 0)))), (a2, .inl (τ 0, 40, .inl (ar (fun _ => 0)))), (a3, .inl (τ 0, 40, .inl (ar (fun _ => 0))))] H _ := hw
  refine pf_X2_18 (ws' := [(h2, .inr (3, [.ref a1, .ref a2, .ref a3, .null, .int (iI 0), .int (iI 0)])), (a1, .inl (τ 0, 40, .inl (ar (fun _ => 0)))), (a2, .inl (τ 0, 40, .inl (ar (fun _ => 0)))), (a3, .inl (τ 0, 40, .inl (ar (fun _ => 0))))]) hx hb hC hw hnm 0 rfl (Nat.le_of_ble_eq_true rfl) rfl dX2_init_25 (fun H locs hw => ?_)
  refine lv_aload_n hx hb dX2_init_28 rfl (lv_at hl 0 rfl) ?_
  refine r_bipush hx hb dX2_init_29 (by decide +kernel) ?_
  refine r_newi (N := 7) hx hb hC hA hw ac_int (by decide) (by decide) (by decide) (by decide) rfl rfl dX2_init_31 (fun a4 H hw => ?_)
  have hw : wS D A s.heap [(h2, .inr (3, [.ref a1, .ref a2, .ref a3, .null, .int (iI 0), .int (iI 0)])), (a1, .inl (τ 0, 40, .inl (ar (fun _ => 0)))), (a2, .inl (τ 0, 40, .inl (ar (fun _ => 0)))), (a3, .inl (τ 0, 40, .inl (ar (fun _ => 0)))), (a4, .inl (τ 0, 7, .inl (ar (fun _ => 0))))] H _ := hw
  refine pf_X2_21 (ws' := [(h2, .inr (3, [.ref a1, .ref a2, .ref a3, .ref a4, .int (iI 0), .int (iI 0)])), (a1, .inl (τ 0, 40, .inl (ar (fun _ => 0)))), (a2, .inl (τ 0, 40, .inl (ar (fun _ => 0)))), (a3, .inl (τ 0, 40, .inl (ar (fun _ => 0)))), (a4, .inl (τ 0, 7, .inl (ar (fun _ => 0))))]) hx hb hC hw hnm 0 rfl (Nat.le_of_ble_eq_true rfl) rfl dX2_init_33 (fun H locs hw => ?_)
  refine lv_aload_n hx hb dX2_init_36 rfl (lv_at hl 0 rfl) ?_
  refine r_iconst hx hb dX2_init_37 ?_
  refine pf_X2_24 (ws' := [(h2, .inr (3, [.ref a1, .ref a2, .ref a3, .ref a4, .int (iI 0), .int (iI 0)])), (a1, .inl (τ 0, 40, .inl (ar (fun _ => 0)))), (a2, .inl (τ 0, 40, .inl (ar (fun _ => 0)))), (a3, .inl (τ 0, 40, .inl (ar (fun _ => 0)))), (a4, .inl (τ 0, 7, .inl (ar (fun _ => 0))))]) hx hb hC hw 0 rfl (Nat.le_of_ble_eq_true rfl) rfl dX2_init_38 (fun H locs hw => ?_)
  refine lv_aload_n hx hb dX2_init_41 rfl (lv_at hl 0 rfl) ?_
  refine r_iconst hx hb dX2_init_42 ?_
  refine pf_X2_28 (ws' := [(h2, .inr (3, [.ref a1, .ref a2, .ref a3, .ref a4, .int (iI 0), .int (iI 0)])), (a1, .inl (τ 0, 40, .inl (ar (fun _ => 0)))), (a2, .inl (τ 0, 40, .inl (ar (fun _ => 0)))), (a3, .inl (τ 0, 40, .inl (ar (fun _ => 0)))), (a4, .inl (τ 0, 7, .inl (ar (fun _ => 0))))]) hx hb hC hw 0 rfl (Nat.le_of_ble_eq_true rfl) rfl dX2_init_43 (fun H locs hw => ?_)
  exact r_vret hx hb hr hlk hw [(h2, .inr (3, [.ref a1, .ref a2, .ref a3, .ref a4, .int (iI 0), .int (iI 0)])), (a1, .inl (τ 0, 40, .inl (ar (fun _ => 0)))), (a2, .inl (τ 0, 40, .inl (ar (fun _ => 0)))), (a3, .inl (τ 0, 40, .inl (ar (fun _ => 0)))), (a4, .inl (τ 0, 7, .inl (ar (fun _ => 0))))] [0, 1, 2, 3, 4] rfl (by decide) ⟨a1, a2, a3, a4, trivial, rfl⟩ dX2_init_46
abbrev W_c_Hear_init (τ : Nat → ClassId) (h3 : Nat) : va_W := [(h3, .inr (1, [.null, .null, .int (iI 0)]))]
abbrev E_c_Hear_init (τ : Nat → ClassId) (h3 : Nat) : va_W → Prop := fun w => ∃ (ha3 : Nat), ∃ (hb3 : Nat), (True) ∧ w = [(h3, .inr (1, [.ref ha3, .ref hb3, .int (iI 0)])), (ha3, .inl (τ 0, 8, .inl (ar (fun _ => 0)))), (hb3, .inl (τ 0, 8, .inl (ar (fun _ => 0))))]
set_option maxHeartbeats 4000000 in
set_option maxRecDepth 100000 in
theorem c_Hear_init (l : Launch) (D : va_G) (τ : Nat → ClassId) (sz : Nat) (h3 : Nat)  : Met l yX0_init (lw_w yX0_init cX0_init 1 none) (rmk 1 2 16) (gPc D τ (W_c_Hear_init τ h3) sz [.ref h3]) (gQv D (E_c_Hear_init τ h3) (va_A (W_c_Hear_init τ h3) sz)) 2 16 (va_A (W_c_Hear_init τ h3) sz) := by
  refine g_met (ret := none) (Qc := gQv D (E_c_Hear_init τ h3)) (by decide +kernel) (Nat.le_of_ble_eq_true rfl) ?_
  intro p e s m args below meth c A ls hx hb hml hr hlk hnm hC hA hw hl
  have hC : cx D τ s m args RX0 := hC
  have hl : lv_has ls 1 [(0, .ref h3)] := hl
  have hw : wS D A s.heap [(h3, .inr (1, [.null, .null, .int (iI 0)]))] s.heap [] := hw
  refine lv_aload_n hx hb dX0_init_0 rfl (lv_at hl 0 rfl) ?_
  refine r_objInit hx hb hml hC hl.1 ml_X0_3 im_init cd_init (by decide) (Nat.le_of_ble_eq_true rfl) (by decide) dX0_init_1 ?_
  refine lv_aload_n hx hb dX0_init_4 rfl (lv_at hl 0 rfl) ?_
  refine r_bipush hx hb dX0_init_5 (by decide +kernel) ?_
  refine r_newi (N := 8) hx hb hC hA hw ac_int (by decide) (by decide) (by decide) (by decide) rfl rfl dX0_init_7 (fun a1 H hw => ?_)
  have hw : wS D A s.heap [(h3, .inr (1, [.null, .null, .int (iI 0)])), (a1, .inl (τ 0, 8, .inl (ar (fun _ => 0))))] H _ := hw
  refine pf_X0_9 (ws' := [(h3, .inr (1, [.ref a1, .null, .int (iI 0)])), (a1, .inl (τ 0, 8, .inl (ar (fun _ => 0))))]) hx hb hC hw hnm 0 rfl (Nat.le_of_ble_eq_true rfl) rfl dX0_init_9 (fun H locs hw => ?_)
  refine lv_aload_n hx hb dX0_init_12 rfl (lv_at hl 0 rfl) ?_
  refine r_bipush hx hb dX0_init_13 (by decide +kernel) ?_
  refine r_newi (N := 8) hx hb hC hA hw ac_int (by decide) (by decide) (by decide) (by decide) rfl rfl dX0_init_15 (fun a2 H hw => ?_)
  have hw : wS D A s.heap [(h3, .inr (1, [.ref a1, .null, .int (iI 0)])), (a1, .inl (τ 0, 8, .inl (ar (fun _ => 0)))), (a2, .inl (τ 0, 8, .inl (ar (fun _ => 0))))] H _ := hw
  refine pf_X0_15 (ws' := [(h3, .inr (1, [.ref a1, .ref a2, .int (iI 0)])), (a1, .inl (τ 0, 8, .inl (ar (fun _ => 0)))), (a2, .inl (τ 0, 8, .inl (ar (fun _ => 0))))]) hx hb hC hw hnm 0 rfl (Nat.le_of_ble_eq_true rfl) rfl dX0_init_17 (fun H locs hw => ?_)
  refine lv_aload_n hx hb dX0_init_20 rfl (lv_at hl 0 rfl) ?_
  refine r_iconst hx hb dX0_init_21 ?_
  refine pf_X0_18 (ws' := [(h3, .inr (1, [.ref a1, .ref a2, .int (iI 0)])), (a1, .inl (τ 0, 8, .inl (ar (fun _ => 0)))), (a2, .inl (τ 0, 8, .inl (ar (fun _ => 0))))]) hx hb hC hw 0 rfl (Nat.le_of_ble_eq_true rfl) rfl dX0_init_22 (fun H locs hw => ?_)
  exact r_vret hx hb hr hlk hw [(h3, .inr (1, [.ref a1, .ref a2, .int (iI 0)])), (a1, .inl (τ 0, 8, .inl (ar (fun _ => 0)))), (a2, .inl (τ 0, 8, .inl (ar (fun _ => 0))))] [0, 1, 2] rfl (by decide) ⟨a1, a2, trivial, rfl⟩ dX0_init_25
abbrev W_c_Ord_init (τ : Nat → ClassId) (h4 : Nat) : va_W := [(h4, .inr (4, [.null, .null, .int (iI 0)]))]
abbrev E_c_Ord_init (τ : Nat → ClassId) (h4 : Nat) : va_W → Prop := fun w => ∃ (oc4 : Nat), ∃ (ob4 : Nat), (True) ∧ w = [(h4, .inr (4, [.ref oc4, .ref ob4, .int (iI 0)])), (oc4, .inl (τ 0, 6, .inl (ar (fun _ => 0)))), (ob4, .inl (τ 0, 6, .inl (ar (fun _ => 0))))]
set_option maxHeartbeats 4000000 in
set_option maxRecDepth 100000 in
theorem c_Ord_init (l : Launch) (D : va_G) (τ : Nat → ClassId) (sz : Nat) (h4 : Nat)  : Met l yX3_init (lw_w yX3_init cX3_init 1 none) (rmk 1 2 12) (gPc D τ (W_c_Ord_init τ h4) sz [.ref h4]) (gQv D (E_c_Ord_init τ h4) (va_A (W_c_Ord_init τ h4) sz)) 2 12 (va_A (W_c_Ord_init τ h4) sz) := by
  refine g_met (ret := none) (Qc := gQv D (E_c_Ord_init τ h4)) (by decide +kernel) (Nat.le_of_ble_eq_true rfl) ?_
  intro p e s m args below meth c A ls hx hb hml hr hlk hnm hC hA hw hl
  have hC : cx D τ s m args RX3 := hC
  have hl : lv_has ls 1 [(0, .ref h4)] := hl
  have hw : wS D A s.heap [(h4, .inr (4, [.null, .null, .int (iI 0)]))] s.heap [] := hw
  refine lv_aload_n hx hb dX3_init_0 rfl (lv_at hl 0 rfl) ?_
  refine r_objInit hx hb hml hC hl.1 ml_X3_3 im_init cd_init (by decide) (Nat.le_of_ble_eq_true rfl) (by decide) dX3_init_1 ?_
  refine lv_aload_n hx hb dX3_init_4 rfl (lv_at hl 0 rfl) ?_
  refine r_bipush hx hb dX3_init_5 (by decide +kernel) ?_
  refine r_newi (N := 6) hx hb hC hA hw ac_int (by decide) (by decide) (by decide) (by decide) rfl rfl dX3_init_7 (fun a1 H hw => ?_)
  have hw : wS D A s.heap [(h4, .inr (4, [.null, .null, .int (iI 0)])), (a1, .inl (τ 0, 6, .inl (ar (fun _ => 0))))] H _ := hw
  refine pf_X3_9 (ws' := [(h4, .inr (4, [.ref a1, .null, .int (iI 0)])), (a1, .inl (τ 0, 6, .inl (ar (fun _ => 0))))]) hx hb hC hw hnm 0 rfl (Nat.le_of_ble_eq_true rfl) rfl dX3_init_9 (fun H locs hw => ?_)
  refine lv_aload_n hx hb dX3_init_12 rfl (lv_at hl 0 rfl) ?_
  refine r_bipush hx hb dX3_init_13 (by decide +kernel) ?_
  refine r_newi (N := 6) hx hb hC hA hw ac_int (by decide) (by decide) (by decide) (by decide) rfl rfl dX3_init_15 (fun a2 H hw => ?_)
  have hw : wS D A s.heap [(h4, .inr (4, [.ref a1, .null, .int (iI 0)])), (a1, .inl (τ 0, 6, .inl (ar (fun _ => 0)))), (a2, .inl (τ 0, 6, .inl (ar (fun _ => 0))))] H _ := hw
  refine pf_X3_15 (ws' := [(h4, .inr (4, [.ref a1, .ref a2, .int (iI 0)])), (a1, .inl (τ 0, 6, .inl (ar (fun _ => 0)))), (a2, .inl (τ 0, 6, .inl (ar (fun _ => 0))))]) hx hb hC hw hnm 0 rfl (Nat.le_of_ble_eq_true rfl) rfl dX3_init_17 (fun H locs hw => ?_)
  refine lv_aload_n hx hb dX3_init_20 rfl (lv_at hl 0 rfl) ?_
  refine r_iconst hx hb dX3_init_21 ?_
  refine pf_X3_18 (ws' := [(h4, .inr (4, [.ref a1, .ref a2, .int (iI 0)])), (a1, .inl (τ 0, 6, .inl (ar (fun _ => 0)))), (a2, .inl (τ 0, 6, .inl (ar (fun _ => 0))))]) hx hb hC hw 0 rfl (Nat.le_of_ble_eq_true rfl) rfl dX3_init_22 (fun H locs hw => ?_)
  exact r_vret hx hb hr hlk hw [(h4, .inr (4, [.ref a1, .ref a2, .int (iI 0)])), (a1, .inl (τ 0, 6, .inl (ar (fun _ => 0)))), (a2, .inl (τ 0, 6, .inl (ar (fun _ => 0))))] [0, 1, 2] rfl (by decide) ⟨a1, a2, trivial, rfl⟩ dX3_init_25
abbrev W_c_Read_init (τ : Nat → ClassId) (h5 : Nat) : va_W := [(h5, .inr (6, [.null, .int (iI 0), .int (iI 0), .int (iI 0)]))]
abbrev E_c_Read_init (τ : Nat → ClassId) (h5 : Nat) : va_W → Prop := fun w => ∃ (rw5 : Nat), (True) ∧ w = [(h5, .inr (6, [.ref rw5, .int (iI 0), .int (iI 0), .int (iI 1)])), (rw5, .inl (τ 0, 40, .inl (ar (fun _ => 0))))]
set_option maxHeartbeats 4000000 in
set_option maxRecDepth 100000 in
theorem c_Read_init (l : Launch) (D : va_G) (τ : Nat → ClassId) (sz : Nat) (h5 : Nat)  : Met l yX5_init (lw_w yX5_init cX5_init 1 none) (rmk 1 1 40) (gPc D τ (W_c_Read_init τ h5) sz [.ref h5]) (gQv D (E_c_Read_init τ h5) (va_A (W_c_Read_init τ h5) sz)) 1 40 (va_A (W_c_Read_init τ h5) sz) := by
  refine g_met (ret := none) (Qc := gQv D (E_c_Read_init τ h5)) (by decide +kernel) (Nat.le_of_ble_eq_true rfl) ?_
  intro p e s m args below meth c A ls hx hb hml hr hlk hnm hC hA hw hl
  have hC : cx D τ s m args RX5 := hC
  have hl : lv_has ls 1 [(0, .ref h5)] := hl
  have hw : wS D A s.heap [(h5, .inr (6, [.null, .int (iI 0), .int (iI 0), .int (iI 0)]))] s.heap [] := hw
  refine lv_aload_n hx hb dX5_init_0 rfl (lv_at hl 0 rfl) ?_
  refine r_objInit hx hb hml hC hl.1 ml_X5_3 im_init cd_init (by decide) (Nat.le_of_ble_eq_true rfl) (by decide) dX5_init_1 ?_
  refine lv_aload_n hx hb dX5_init_4 rfl (lv_at hl 0 rfl) ?_
  refine r_bipush hx hb dX5_init_5 (by decide +kernel) ?_
  refine r_newi (N := 40) hx hb hC hA hw ac_int (by decide) (by decide) (by decide) (by decide) rfl rfl dX5_init_7 (fun a1 H hw => ?_)
  have hw : wS D A s.heap [(h5, .inr (6, [.null, .int (iI 0), .int (iI 0), .int (iI 0)])), (a1, .inl (τ 0, 40, .inl (ar (fun _ => 0))))] H _ := hw
  refine pf_X5_9 (ws' := [(h5, .inr (6, [.ref a1, .int (iI 0), .int (iI 0), .int (iI 0)])), (a1, .inl (τ 0, 40, .inl (ar (fun _ => 0))))]) hx hb hC hw hnm 0 rfl (Nat.le_of_ble_eq_true rfl) rfl dX5_init_9 (fun H locs hw => ?_)
  refine lv_aload_n hx hb dX5_init_12 rfl (lv_at hl 0 rfl) ?_
  refine r_iconst hx hb dX5_init_13 ?_
  refine pf_X5_15 (ws' := [(h5, .inr (6, [.ref a1, .int (iI 0), .int (iI 0), .int (iI 0)])), (a1, .inl (τ 0, 40, .inl (ar (fun _ => 0))))]) hx hb hC hw 0 rfl (Nat.le_of_ble_eq_true rfl) rfl dX5_init_14 (fun H locs hw => ?_)
  refine lv_aload_n hx hb dX5_init_17 rfl (lv_at hl 0 rfl) ?_
  refine r_iconst hx hb dX5_init_18 ?_
  refine pf_X5_19 (ws' := [(h5, .inr (6, [.ref a1, .int (iI 0), .int (iI 0), .int (iI 0)])), (a1, .inl (τ 0, 40, .inl (ar (fun _ => 0))))]) hx hb hC hw 0 rfl (Nat.le_of_ble_eq_true rfl) rfl dX5_init_19 (fun H locs hw => ?_)
  refine lv_aload_n hx hb dX5_init_22 rfl (lv_at hl 0 rfl) ?_
  refine r_iconst hx hb dX5_init_23 ?_
  refine pf_X5_22 (ws' := [(h5, .inr (6, [.ref a1, .int (iI 0), .int (iI 0), .int (iI 1)])), (a1, .inl (τ 0, 40, .inl (ar (fun _ => 0))))]) hx hb hC hw 0 (by decide) rfl (Nat.le_of_ble_eq_true rfl) rfl dX5_init_24 (fun H locs hw => ?_)
  exact r_vret hx hb hr hlk hw [(h5, .inr (6, [.ref a1, .int (iI 0), .int (iI 0), .int (iI 1)])), (a1, .inl (τ 0, 40, .inl (ar (fun _ => 0))))] [0, 1] rfl (by decide) ⟨a1, trivial, rfl⟩ dX5_init_27
abbrev W_c_Walk_init (τ : Nat → ClassId) (h6 : Nat) (h8 : Nat) : va_W := [(h6, .inr (11, [.null, .null, .null, .int (iI 0), .int (iI 0), .int (iI 0)]))]
abbrev E_c_Walk_init (τ : Nat → ClassId) (h6 : Nat) (h8 : Nat) : va_W → Prop := fun w => ∃ (ww6 : Nat), ∃ (wt6 : Nat), (True) ∧ w = [(h6, .inr (11, [.ref h8, .ref ww6, .ref wt6, .int (iI 0), .int (iI 0), .int (iI 0)])), (ww6, .inl (τ 0, 30, .inl (ar (fun _ => 0)))), (wt6, .inl (τ 0, 8, .inl (ar (fun _ => 0))))]
set_option maxHeartbeats 4000000 in
set_option maxRecDepth 100000 in
theorem c_Walk_init (l : Launch) (D : va_G) (τ : Nat → ClassId) (sz : Nat) (h6 : Nat) (h8 : Nat)  : Met l yX10_init (lw_w yX10_init cX10_init 2 none) (rmk 1 2 38) (gPc D τ (W_c_Walk_init τ h6 h8) sz [.ref h6, .ref h8]) (gQv D (E_c_Walk_init τ h6 h8) (va_A (W_c_Walk_init τ h6 h8) sz)) 2 38 (va_A (W_c_Walk_init τ h6 h8) sz) := by
  refine g_met (ret := none) (Qc := gQv D (E_c_Walk_init τ h6 h8)) (by decide +kernel) (Nat.le_of_ble_eq_true rfl) ?_
  intro p e s m args below meth c A ls hx hb hml hr hlk hnm hC hA hw hl
  have hC : cx D τ s m args RX10 := hC
  have hl : lv_has ls 2 [(0, .ref h6), (1, .ref h8)] := hl
  have hw : wS D A s.heap [(h6, .inr (11, [.null, .null, .null, .int (iI 0), .int (iI 0), .int (iI 0)]))] s.heap [] := hw
  refine lv_aload_n hx hb dX10_init_0 rfl (lv_at hl 0 rfl) ?_
  refine r_objInit hx hb hml hC hl.1 ml_X10_3 im_init cd_init (by decide) (Nat.le_of_ble_eq_true rfl) (by decide) dX10_init_1 ?_
  refine lv_aload_n hx hb dX10_init_4 rfl (lv_at hl 0 rfl) ?_
  refine r_bipush hx hb dX10_init_5 (by decide +kernel) ?_
  refine r_newi (N := 30) hx hb hC hA hw ac_int (by decide) (by decide) (by decide) (by decide) rfl rfl dX10_init_7 (fun a1 H hw => ?_)
  have hw : wS D A s.heap [(h6, .inr (11, [.null, .null, .null, .int (iI 0), .int (iI 0), .int (iI 0)])), (a1, .inl (τ 0, 30, .inl (ar (fun _ => 0))))] H _ := hw
  refine pf_X10_9 (ws' := [(h6, .inr (11, [.null, .ref a1, .null, .int (iI 0), .int (iI 0), .int (iI 0)])), (a1, .inl (τ 0, 30, .inl (ar (fun _ => 0))))]) hx hb hC hw hnm 0 rfl (Nat.le_of_ble_eq_true rfl) rfl dX10_init_9 (fun H locs hw => ?_)
  refine lv_aload_n hx hb dX10_init_12 rfl (lv_at hl 0 rfl) ?_
  refine r_bipush hx hb dX10_init_13 (by decide +kernel) ?_
  refine r_newi (N := 8) hx hb hC hA hw ac_int (by decide) (by decide) (by decide) (by decide) rfl rfl dX10_init_15 (fun a2 H hw => ?_)
  have hw : wS D A s.heap [(h6, .inr (11, [.null, .ref a1, .null, .int (iI 0), .int (iI 0), .int (iI 0)])), (a1, .inl (τ 0, 30, .inl (ar (fun _ => 0)))), (a2, .inl (τ 0, 8, .inl (ar (fun _ => 0))))] H _ := hw
  refine pf_X10_15 (ws' := [(h6, .inr (11, [.null, .ref a1, .ref a2, .int (iI 0), .int (iI 0), .int (iI 0)])), (a1, .inl (τ 0, 30, .inl (ar (fun _ => 0)))), (a2, .inl (τ 0, 8, .inl (ar (fun _ => 0))))]) hx hb hC hw hnm 0 rfl (Nat.le_of_ble_eq_true rfl) rfl dX10_init_17 (fun H locs hw => ?_)
  refine lv_aload_n hx hb dX10_init_20 rfl (lv_at hl 0 rfl) ?_
  refine r_iconst hx hb dX10_init_21 ?_
  refine pf_X10_18 (ws' := [(h6, .inr (11, [.null, .ref a1, .ref a2, .int (iI 0), .int (iI 0), .int (iI 0)])), (a1, .inl (τ 0, 30, .inl (ar (fun _ => 0)))), (a2, .inl (τ 0, 8, .inl (ar (fun _ => 0))))]) hx hb hC hw 0 rfl (Nat.le_of_ble_eq_true rfl) rfl dX10_init_22 (fun H locs hw => ?_)
  refine lv_aload_n hx hb dX10_init_25 rfl (lv_at hl 0 rfl) ?_
  refine r_iconst hx hb dX10_init_26 ?_
  refine pf_X10_22 (ws' := [(h6, .inr (11, [.null, .ref a1, .ref a2, .int (iI 0), .int (iI 0), .int (iI 0)])), (a1, .inl (τ 0, 30, .inl (ar (fun _ => 0)))), (a2, .inl (τ 0, 8, .inl (ar (fun _ => 0))))]) hx hb hC hw 0 rfl (Nat.le_of_ble_eq_true rfl) rfl dX10_init_27 (fun H locs hw => ?_)
  refine lv_aload_n hx hb dX10_init_30 rfl (lv_at hl 0 rfl) ?_
  refine r_iconst hx hb dX10_init_31 ?_
  refine pf_X10_25 (ws' := [(h6, .inr (11, [.null, .ref a1, .ref a2, .int (iI 0), .int (iI 0), .int (iI 0)])), (a1, .inl (τ 0, 30, .inl (ar (fun _ => 0)))), (a2, .inl (τ 0, 8, .inl (ar (fun _ => 0))))]) hx hb hC hw 0 (by decide) rfl (Nat.le_of_ble_eq_true rfl) rfl dX10_init_32 (fun H locs hw => ?_)
  refine lv_aload_n hx hb dX10_init_35 rfl (lv_at hl 0 rfl) ?_
  refine lv_aload_n hx hb dX10_init_36 rfl (lv_at hl 1 rfl) ?_
  refine pf_X10_29 (ws' := [(h6, .inr (11, [.ref h8, .ref a1, .ref a2, .int (iI 0), .int (iI 0), .int (iI 0)])), (a1, .inl (τ 0, 30, .inl (ar (fun _ => 0)))), (a2, .inl (τ 0, 8, .inl (ar (fun _ => 0))))]) hx hb hC hw hnm 0 rfl (Nat.le_of_ble_eq_true rfl) rfl dX10_init_37 (fun H locs hw => ?_)
  exact r_vret hx hb hr hlk hw [(h6, .inr (11, [.ref h8, .ref a1, .ref a2, .int (iI 0), .int (iI 0), .int (iI 0)])), (a1, .inl (τ 0, 30, .inl (ar (fun _ => 0)))), (a2, .inl (τ 0, 8, .inl (ar (fun _ => 0))))] [0, 1, 2] rfl (by decide) ⟨a1, a2, trivial, rfl⟩ dX10_init_40
end
