set_option maxHeartbeats 4000000 in
set_option maxRecDepth 100000 in
theorem mX12_swaps (l : Launch) (D : va_G) (τ : Nat → ClassId) (ad : Nat → Nat) (sA sV : Nat → Nat) (sz : Nat) (p1 : Int) (p2 : Int) (hp1 : iR p1) (hp2 : iR p2) (M : Mem) (hM : MR M) (Q : Int → Mem → Prop) (hv : qX12_swaps p1 p2 M Q) : Met l yX12_swaps (lw_w yX12_swaps cX12_swaps 3 (some .int)) (rmk 4 0 0) (kPc D τ sA sV (WM τ ad M) sz [.ref (ad 1), .int (iI p1), .int (iI p2)]) (gQi D (EQi (WM τ ad) MR Q) (va_A (WM τ ad M) sz)) 0 0 (va_A (WM τ ad M) sz) := by
  refine k_met (ret := (some .int)) (Qc := gQi D (EQi (WM τ ad) MR Q)) (by decide +kernel) (Nat.le_of_ble_eq_true rfl) ?_
  intro p e s m args below meth c A ls hx hb hml hr hlk hnm hC hLS hA hw hl
  have hC : cx D τ s m args RX12 := hC
  have hl : lv_has ls 3 [(0, .ref (ad 1)), (1, .int (iI p1)), (2, .int (iI p2))] := hl
  unfold qX12_swaps at hv
  refine lv_aload_n hx hb dX12_swaps_0 rfl (lv_at hl 0 rfl) ?_
  refine r_iconst hx hb dX12_swaps_1 ?_
  obtain ⟨M1, e1⟩ : ∃ M1 : Mem, M1 = up2 M 1 0 0 := ⟨_, rfl⟩
  have hv := hv M1 e1
  refine pf_X12_112 (ws' := (WM τ ad M1)) hx hb hC hw 1 (gM_1 τ ad M) (Nat.le_of_ble_eq_true rfl) (by rw [e1]; exact sM_1_0 τ ad M _) dX12_swaps_2 (fun H locs hw => ?_)
  have hM : MR M1 := by rw [e1]; exact hM.put (by decide) (by decide)
  refine lv_aload_n hx hb dX12_swaps_5 rfl (lv_at hl 0 rfl) ?_
  refine k_cVv (wq_M τ ad) hx hb hml hC hLS hA hw hl.1 (mX12_putsBy l D τ ad sA sV _   M1 hM _ hv) kX12_putsBy ml_X12_352 rfl (gM_1 τ ad M1) rfl rfl (Nat.le_of_ble_eq_true rfl) (rm_ok (by decide) (by decide)) ⟨Nat.zero_le _, Nat.zero_le _⟩ dX12_swaps_6 (fun M2 H locs hM hv hw => ?_)
  refine lv_aload_n hx hb dX12_swaps_9 rfl (lv_at hl 0 rfl) ?_
  refine lv_aload_n hx hb dX12_swaps_10 rfl (lv_at hl 0 rfl) ?_
  refine lv_iload_n hx hb dX12_swaps_11 rfl (lv_at hl 1 rfl) ?_
  refine lv_iload_n hx hb dX12_swaps_12 rfl (lv_at hl 2 rfl) ?_
  refine k_cVi (wq_M τ ad) hx hb hml hC hLS hA hw hl.1 (mX12_swapsTwo l D τ ad sA sV _ p1 p2 hp1 hp2 M2 hM _ hv) kX12_swapsTwo ml_X12_371 rfl (gM_1 τ ad M2) rfl rfl (Nat.le_of_ble_eq_true rfl) (rm_ok (by decide) (by decide)) ⟨Nat.zero_le _, Nat.zero_le _⟩ dX12_swaps_13 (fun x3 M3 H locs g3 hM hv hw => ?_)
  have hv := hv g3
  refine k_cVi (wq_M τ ad) hx hb hml hC hLS hA hw hl.1 (mX12_counted l D τ ad sA sV _ x3 g3 M3 hM _ hv) kX12_counted ml_X12_365 rfl (gM_1 τ ad M3) rfl rfl (Nat.le_of_ble_eq_true rfl) (rm_ok (by decide) (by decide)) ⟨Nat.zero_le _, Nat.zero_le _⟩ dX12_swaps_16 (fun x4 M4 H locs g4 hM hv hw => ?_)
  have hv := hv g4
  exact k_iret (wq_M τ ad) hx hb hr hlk hw hM g4 hv dX12_swaps_19
set_option maxHeartbeats 4000000 in
set_option maxRecDepth 100000 in
theorem mX12_does (l : Launch) (D : va_G) (τ : Nat → ClassId) (ad : Nat → Nat) (sA sV : Nat → Nat) (sz : Nat) (p1 : Int) (hp1 : iR p1) (M : Mem) (hM : MR M) (Q : Int → Mem → Prop) (hv : qX12_does p1 M Q) : Met l yX12_does (lw_w yX12_does cX12_does 4 (some .boolean)) (rmk 7 0 0) (kPc D τ sA sV (WM τ ad M) sz [.ref (ad 1), .int (iI p1)]) (gQi D (EQz (WM τ ad) MR Q) (va_A (WM τ ad M) sz)) 0 0 (va_A (WM τ ad M) sz) := by
  refine k_met (ret := (some .boolean)) (Qc := gQi D (EQz (WM τ ad) MR Q)) (by decide +kernel) (Nat.le_of_ble_eq_true rfl) ?_
  intro p e s m args below meth c A ls hx hb hml hr hlk hnm hC hLS hA hw hl
  have hC : cx D τ s m args RX12 := hC
  have hl : lv_has ls 4 [(0, .ref (ad 1)), (1, .int (iI p1))] := hl
  unfold qX12_does at hv
  have L46 : ∀ (n : Nat) (v2 : Int) (v3 : Int) (M : Mem) (H : Heap) (locs : List Loc) (ls : Array Slot), MR M → qX12_does_L46 p1  Q n v2 v3 M → wS D A s.heap (WM τ ad M) H locs → lv_has ls 4 [(0, .ref (ad 1)), (2, .int (iI v2)), (3, .int (iI v3))] → W p l e (rmk 7 0 0) s m args below meth c H locs 0 0 (MQ below (gQi D (EQz (WM τ ad) MR Q) A) args s 0 0 A) (F0 m 46 ls []) := by
    intro n
    induction n with
    | zero => intro v2 v3 M H locs ls hM hv; rw [qX12_does_L46] at hv; exact hv.elim
    | succ n ih =>
      intro v2 v3 M H locs ls hM hv hw hl
      rw [qX12_does_L46] at hv
      refine lv_iload_n hx hb dX12_does_46 rfl (lv_at hl 2 rfl) ?_
      refine lv_iload_n hx hb dX12_does_47 rfl (lv_at hl 1 rfl) ?_
      obtain ⟨c6, hv⟩ := hv
      obtain ⟨c7, hv⟩ := hv
      refine r_icmp_ge (tgt := 65) hx hb dX12_does_48 (by decide) c6 c7 (fun b8 => ?_) (fun b8 => ?_)
      · have hv := hv.1 b8
        refine r_iconst hx hb dX12_does_65 ?_
        exact k_zret (wq_M τ ad) hx hb hr hlk hw hM (by decide) (by decide) hv dX12_does_66
      · have hv := hv.2 b8
        refine lv_aload_n hx hb dX12_does_51 rfl (lv_at hl 0 rfl) ?_
        refine lv_aload_n hx hb dX12_does_52 rfl (lv_at hl 0 rfl) ?_
        refine gf_X12_31 hx hb hC hw 1 (gM_1 τ ad M) rfl dX12_does_53 ?_
        refine k_cVv (wq_M τ ad) hx hb hml hC hLS hA hw hl.1 (mX12_stepGoes l D τ ad sA sV _ 5 aM_5 M hM _ hv) kX12_stepGoes ml_X12_343 rfl (gM_1 τ ad M) rfl rfl (Nat.le_of_ble_eq_true rfl) (rm_ok (by decide) (by decide)) ⟨Nat.zero_le _, Nat.zero_le _⟩ dX12_does_56 (fun M9 H locs hM hv hw => ?_)
        refine r_iinc (v := (v3 + 1)) (lv' := [(3, .int (iI (v3 + 1))), (0, .ref (ad 1)), (2, .int (iI v2))]) hx hb dX12_does_59 hl (k := 2) rfl rfl (by decide) rfl (fun ls hl => ?_)
        refine lv_goto (tgt := 46) hx hb dX12_does_62 (by decide) ?_
        exact ih v2 (v3 + 1) M9 _ _ _ hM hv hw (lv_sub hl [1, 2, 0] rfl)
  refine lv_aload_n hx hb dX12_does_0 rfl (lv_at hl 0 rfl) ?_
  refine gf_X12_76 hx hb hC hw 1 (gM_1 τ ad M) rfl dX12_does_1 ?_
  refine lv_iload_n hx hb dX12_does_4 rfl (lv_at hl 1 rfl) ?_
  obtain ⟨c1, hv⟩ := hv
  obtain ⟨c2, hv⟩ := hv
  refine r_iald hx hb hC hw 20 (gI_M aM_20 τ ad M) c1 c2 (by decide) dX12_does_5 ?_
  refine r_top (fun x3 e3 => ?_)
  have g3 : iR x3 := by rw [e3]; exact hM.get aM_20.pos _
  have hv := hv x3 e3 g3
  refine lv_istore_n (lv' := [(2, .int (iI x3)), (0, .ref (ad 1)), (1, .int (iI p1))]) hx hb dX12_does_6 rfl hl (by decide) rfl (fun ls hl => ?_)
  refine lv_aload_n hx hb dX12_does_7 rfl (lv_at hl 1 rfl) ?_
  refine gf_X12_73 hx hb hC hw 1 (gM_1 τ ad M) rfl dX12_does_8 ?_
  refine lv_iload_n hx hb dX12_does_11 rfl (lv_at hl 2 rfl) ?_
  refine r_iald hx hb hC hw 19 (gI_M aM_19 τ ad M) c1 c2 (by decide) dX12_does_12 ?_
  refine r_top (fun x4 e4 => ?_)
  have g4 : iR x4 := by rw [e4]; exact hM.get aM_19.pos _
  have hv := hv x4 e4 g4
  rcases (show x4 = 0 ∨ x4 = 1 ∨ x4 = 2 ∨ x4 = 3 ∨ (x4 < 0 ∨ 3 < x4) by omega) with b5 | b5 | b5 | b5 | b5
  · refine r_tblI (tgt := 44) hx hb dX12_does_13 g4 (by omega) (by omega) (by rw [b5]; first | done | rfl) (by decide) ?_
    have hv := hv.1 b5
    refine r_iconst hx hb dX12_does_44 ?_
    refine lv_istore_n (lv' := [(3, .int (iI 0)), (2, .int (iI x3)), (0, .ref (ad 1)), (1, .int (iI p1))]) hx hb dX12_does_45 rfl hl (by decide) rfl (fun ls hl => ?_)
    obtain ⟨n10, hv⟩ := hv
    refine L46  n10 x3 0 M _ _ _ hM hv hw (lv_sub hl [2, 1, 0] rfl)
  · refine r_tblI (tgt := 67) hx hb dX12_does_13 g4 (by omega) (by omega) (by rw [b5]; first | done | rfl) (by decide) ?_
    have hv := hv.2.1 b5
    refine lv_aload_n hx hb dX12_does_67 rfl (lv_at hl 1 rfl) ?_
    refine lv_aload_n hx hb dX12_does_68 rfl (lv_at hl 1 rfl) ?_
    refine gf_X12_31 hx hb hC hw 1 (gM_1 τ ad M) rfl dX12_does_69 ?_
    refine lv_iload_n hx hb dX12_does_72 rfl (lv_at hl 0 rfl) ?_
    refine k_cVi (wq_M τ ad) hx hb hml hC hLS hA hw hl.1 (mX12_turnsOne l D τ ad sA sV _ 5 x3 aM_5 g3 M hM _ hv) kX12_turnsOne ml_X12_362 rfl (gM_1 τ ad M) rfl rfl (Nat.le_of_ble_eq_true rfl) (rm_ok (by decide) (by decide)) ⟨Nat.zero_le _, Nat.zero_le _⟩ dX12_does_73 (fun x11 M11 H locs g11 hM hv hw => ?_)
    have hv := hv g11
    refine lv_istore_n (lv' := [(3, .int (iI x11)), (2, .int (iI x3)), (0, .ref (ad 1)), (1, .int (iI p1))]) hx hb dX12_does_76 rfl hl (by decide) rfl (fun ls hl => ?_)
    refine lv_iload_n hx hb dX12_does_77 rfl (lv_at hl 0 rfl) ?_
    refine r_if_ge (tgt := 87) hx hb dX12_does_78 (by decide) g11  (fun b12 => ?_) (fun b12 => ?_)
    · have hv := hv.1 b12
      refine r_iconst hx hb dX12_does_87 ?_
      refine lv_goto (tgt := 92) hx hb dX12_does_88 (by decide) ?_
      exact k_zret (wq_M τ ad) hx hb hr hlk hw hM (by decide) (by decide) hv dX12_does_92
    · have hv := hv.2 b12
      refine lv_iload_n hx hb dX12_does_81 rfl (lv_at hl 0 rfl) ?_
      refine r_bipush hx hb dX12_does_82 (by decide +kernel) ?_
      refine r_icmp_ne (tgt := 91) hx hb dX12_does_84 (by decide) g11 (by decide) (fun b13 => ?_) (fun b13 => ?_)
      · have hv := hv.1 b13
        refine r_iconst hx hb dX12_does_91 ?_
        exact k_zret (wq_M τ ad) hx hb hr hlk hw hM (by decide) (by decide) hv dX12_does_92
      · have hv := hv.2 b13
        refine r_iconst hx hb dX12_does_87 ?_
        refine lv_goto (tgt := 92) hx hb dX12_does_88 (by decide) ?_
        exact k_zret (wq_M τ ad) hx hb hr hlk hw hM (by decide) (by decide) hv dX12_does_92
  · refine r_tblI (tgt := 93) hx hb dX12_does_13 g4 (by omega) (by omega) (by rw [b5]; first | done | rfl) (by decide) ?_
    have hv := hv.2.2.1 b5
    refine lv_aload_n hx hb dX12_does_93 rfl (lv_at hl 1 rfl) ?_
    refine lv_aload_n hx hb dX12_does_94 rfl (lv_at hl 1 rfl) ?_
    refine gf_X12_31 hx hb hC hw 1 (gM_1 τ ad M) rfl dX12_does_95 ?_
    refine lv_iload_n hx hb dX12_does_98 rfl (lv_at hl 0 rfl) ?_
    refine lv_aload_n hx hb dX12_does_99 rfl (lv_at hl 1 rfl) ?_
    refine gf_X12_79 hx hb hC hw 1 (gM_1 τ ad M) rfl dX12_does_100 ?_
    refine lv_iload_n hx hb dX12_does_103 rfl (lv_at hl 2 rfl) ?_
    refine r_iald hx hb hC hw 21 (gI_M aM_21 τ ad M) c1 c2 (by decide) dX12_does_104 ?_
    refine r_top (fun x14 e14 => ?_)
    have g14 : iR x14 := by rw [e14]; exact hM.get aM_21.pos _
    have hv := hv x14 e14 g14
    refine k_cVi (wq_M τ ad) hx hb hml hC hLS hA hw hl.1 (mX12_pushesOne l D τ ad sA sV _ 5 x3 x14 aM_5 g3 g14 M hM _ hv) kX12_pushesOne ml_X12_368 rfl (gM_1 τ ad M) rfl rfl (Nat.le_of_ble_eq_true rfl) (rm_ok (by decide) (by decide)) ⟨Nat.zero_le _, Nat.zero_le _⟩ dX12_does_105 (fun x15 M15 H locs g15 hM hv hw => ?_)
    have hv := hv g15
    refine r_if_lt (tgt := 115) hx hb dX12_does_108 (by decide) g15  (fun b16 => ?_) (fun b16 => ?_)
    · have hv := hv.1 b16
      refine r_iconst hx hb dX12_does_115 ?_
      exact k_zret (wq_M τ ad) hx hb hr hlk hw hM (by decide) (by decide) hv dX12_does_116
    · have hv := hv.2 b16
      refine r_iconst hx hb dX12_does_111 ?_
      refine lv_goto (tgt := 116) hx hb dX12_does_112 (by decide) ?_
      exact k_zret (wq_M τ ad) hx hb hr hlk hw hM (by decide) (by decide) hv dX12_does_116
  · refine r_tblI (tgt := 117) hx hb dX12_does_13 g4 (by omega) (by omega) (by rw [b5]; first | done | rfl) (by decide) ?_
    have hv := hv.2.2.2.1 b5
    refine lv_aload_n hx hb dX12_does_117 rfl (lv_at hl 1 rfl) ?_
    refine lv_aload_n hx hb dX12_does_118 rfl (lv_at hl 1 rfl) ?_
    refine gf_X12_31 hx hb hC hw 1 (gM_1 τ ad M) rfl dX12_does_119 ?_
    refine lv_iload_n hx hb dX12_does_122 rfl (lv_at hl 0 rfl) ?_
    refine lv_aload_n hx hb dX12_does_123 rfl (lv_at hl 1 rfl) ?_
    refine gf_X12_79 hx hb hC hw 1 (gM_1 τ ad M) rfl dX12_does_124 ?_
    refine lv_iload_n hx hb dX12_does_127 rfl (lv_at hl 2 rfl) ?_
    refine r_iald hx hb hC hw 21 (gI_M aM_21 τ ad M) c1 c2 (by decide) dX12_does_128 ?_
    refine r_top (fun x17 e17 => ?_)
    have g17 : iR x17 := by rw [e17]; exact hM.get aM_21.pos _
    have hv := hv x17 e17 g17
    refine r_ineg (z := (-x17)) hx hb dX12_does_129 rfl ?_
    obtain ⟨c18, hv⟩ := hv
    refine k_cVi (wq_M τ ad) hx hb hml hC hLS hA hw hl.1 (mX12_pushesOne l D τ ad sA sV _ 5 x3 (-x17) aM_5 g3 c18 M hM _ hv) kX12_pushesOne ml_X12_368 rfl (gM_1 τ ad M) rfl rfl (Nat.le_of_ble_eq_true rfl) (rm_ok (by decide) (by decide)) ⟨Nat.zero_le _, Nat.zero_le _⟩ dX12_does_130 (fun x19 M19 H locs g19 hM hv hw => ?_)
    have hv := hv g19
    refine r_if_lt (tgt := 140) hx hb dX12_does_133 (by decide) g19  (fun b20 => ?_) (fun b20 => ?_)
    · have hv := hv.1 b20
      refine r_iconst hx hb dX12_does_140 ?_
      exact k_zret (wq_M τ ad) hx hb hr hlk hw hM (by decide) (by decide) hv dX12_does_141
    · have hv := hv.2 b20
      refine r_iconst hx hb dX12_does_136 ?_
      refine lv_goto (tgt := 141) hx hb dX12_does_137 (by decide) ?_
      exact k_zret (wq_M τ ad) hx hb hr hlk hw hM (by decide) (by decide) hv dX12_does_141
  · refine r_tblO (tgt := 142) hx hb dX12_does_13 g4 b5 (by decide) ?_
    have hv := hv.2.2.2.2 b5
    refine lv_aload_n hx hb dX12_does_142 rfl (lv_at hl 1 rfl) ?_
    refine lv_iload_n hx hb dX12_does_143 rfl (lv_at hl 0 rfl) ?_
    refine lv_aload_n hx hb dX12_does_144 rfl (lv_at hl 1 rfl) ?_
    refine gf_X12_79 hx hb hC hw 1 (gM_1 τ ad M) rfl dX12_does_145 ?_
    refine lv_iload_n hx hb dX12_does_148 rfl (lv_at hl 2 rfl) ?_
    refine r_iald hx hb hC hw 21 (gI_M aM_21 τ ad M) c1 c2 (by decide) dX12_does_149 ?_
    refine r_top (fun x21 e21 => ?_)
    have g21 : iR x21 := by rw [e21]; exact hM.get aM_21.pos _
    have hv := hv x21 e21 g21
    refine k_cVi (wq_M τ ad) hx hb hml hC hLS hA hw hl.1 (mX12_swapsTwo l D τ ad sA sV _ x3 x21 g3 g21 M hM _ hv) kX12_swapsTwo ml_X12_371 rfl (gM_1 τ ad M) rfl rfl (Nat.le_of_ble_eq_true rfl) (rm_ok (by decide) (by decide)) ⟨Nat.zero_le _, Nat.zero_le _⟩ dX12_does_150 (fun x22 M22 H locs g22 hM hv hw => ?_)
    have hv := hv g22
    refine r_if_lt (tgt := 160) hx hb dX12_does_153 (by decide) g22  (fun b23 => ?_) (fun b23 => ?_)
    · have hv := hv.1 b23
      refine r_iconst hx hb dX12_does_160 ?_
      exact k_zret (wq_M τ ad) hx hb hr hlk hw hM (by decide) (by decide) hv dX12_does_161
    · have hv := hv.2 b23
      refine r_iconst hx hb dX12_does_156 ?_
      refine lv_goto (tgt := 161) hx hb dX12_does_157 (by decide) ?_
      exact k_zret (wq_M τ ad) hx hb hr hlk hw hM (by decide) (by decide) hv dX12_does_161
set_option maxHeartbeats 4000000 in
set_option maxRecDepth 100000 in
theorem mX12_digitIn (l : Launch) (D : va_G) (τ : Nat → ClassId) (ad : Nat → Nat) (sA sV : Nat → Nat) (sz : Nat) (p1 : Int) (p2 : Int) (hp1 : iR p1) (hp2 : iR p2) (M : Mem) (hM : MR M) (Q : Int → Mem → Prop) (hv : qX12_digitIn p1 p2 M Q) : Met l yX12_digitIn (lw_w yX12_digitIn cX12_digitIn 3 (some .int)) (rmk 2 0 0) (kPc D τ sA sV (WM τ ad M) sz [.ref (ad 1), .int (iI p1), .int (iI p2)]) (gQi D (EQi (WM τ ad) MR Q) (va_A (WM τ ad M) sz)) 0 0 (va_A (WM τ ad M) sz) := by
  refine k_met (ret := (some .int)) (Qc := gQi D (EQi (WM τ ad) MR Q)) (by decide +kernel) (Nat.le_of_ble_eq_true rfl) ?_
  intro p e s m args below meth c A ls hx hb hml hr hlk hnm hC hLS hA hw hl
  have hC : cx D τ s m args RX12 := hC
  have hl : lv_has ls 3 [(0, .ref (ad 1)), (1, .int (iI p1)), (2, .int (iI p2))] := hl
  unfold qX12_digitIn at hv
  refine lv_aload_n hx hb dX12_digitIn_0 rfl (lv_at hl 0 rfl) ?_
  refine gf_X12_139 hx hb hC hw 1 (gM_1 τ ad M) rfl dX12_digitIn_1 ?_
  refine r_top (fun x1 e1 => ?_)
  have g1 : iR x1 := by rw [e1]; exact hM.get (by decide) _
  have hv := hv x1 e1 g1
  refine lv_aload_n hx hb dX12_digitIn_4 rfl (lv_at hl 0 rfl) ?_
  refine gf_X12_151 hx hb hC hw 1 (gM_1 τ ad M) rfl dX12_digitIn_5 ?_
  refine r_top (fun x2 e2 => ?_)
  have g2 : iR x2 := by rw [e2]; exact hM.get (by decide) _
  have hv := hv x2 e2 g2
  refine r_icmp_ge (tgt := 34) hx hb dX12_digitIn_8 (by decide) g1 g2 (fun b3 => ?_) (fun b3 => ?_)
  · have hv := hv.1 b3
    refine r_iconst hx hb dX12_digitIn_34 ?_
    exact k_iret (wq_M τ ad) hx hb hr hlk hw hM (by decide) hv dX12_digitIn_35
  · have hv := hv.2 b3
    refine lv_aload_n hx hb dX12_digitIn_11 rfl (lv_at hl 0 rfl) ?_
    refine gf_X12_37 hx hb hC hw 1 (gM_1 τ ad M) rfl dX12_digitIn_12 ?_
    refine lv_aload_n hx hb dX12_digitIn_15 rfl (lv_at hl 0 rfl) ?_
    refine gf_X12_139 hx hb hC hw 1 (gM_1 τ ad M) rfl dX12_digitIn_16 ?_
    refine r_top (fun x4 e4 => ?_)
    have g4 : iR x4 := by rw [e4]; exact hM.get (by decide) _
    have hv := hv x4 e4 g4
    obtain ⟨c5, hv⟩ := hv
    obtain ⟨c6, hv⟩ := hv
    refine r_iald hx hb hC hw 7 (gI_M aM_7 τ ad M) c5 c6 (by decide) dX12_digitIn_19 ?_
    refine r_top (fun x7 e7 => ?_)
    have g7 : iR x7 := by rw [e7]; exact hM.get aM_7.pos _
    have hv := hv x7 e7 g7
    refine r_bipush hx hb dX12_digitIn_20 (by decide +kernel) ?_
    refine r_isub (z := (x7 - 48)) hx hb dX12_digitIn_22 rfl ?_
    obtain ⟨c8, hv⟩ := hv
    refine r_i2l hx hb dX12_digitIn_23 c8 ?_
    refine lv_iload_n hx hb dX12_digitIn_24 rfl (lv_at hl 1 rfl) ?_
    refine r_i2l hx hb dX12_digitIn_25 hp1 ?_
    refine lv_iload_n hx hb dX12_digitIn_26 rfl (lv_at hl 2 rfl) ?_
    refine r_i2l hx hb dX12_digitIn_27 hp2 ?_
    refine k_cSz (wq_M τ ad) hx hb hml hC hLS hA hw hl.1 (mX12_in l D τ ad sA sV _ (x7 - 48) p1 p2 (iR_lR c8) (iR_lR hp1) (iR_lR hp2) M hM _ hv) kX12_in ml_X12_125 rfl rfl (Nat.le_of_ble_eq_true rfl) (rm_ok (by decide) (by decide)) ⟨Nat.zero_le _, Nat.zero_le _⟩ dX12_digitIn_28 (fun x9 M9 H locs g9 z9 hM hv hw => ?_)
    have hv := hv g9 z9
    refine r_if_ne (tgt := 36) hx hb dX12_digitIn_31 (by decide) g9  (fun b10 => ?_) (fun b10 => ?_)
    · have hv := hv.1 b10
      refine lv_aload_n hx hb dX12_digitIn_36 rfl (lv_at hl 0 rfl) ?_
      refine lv_dup hx hb dX12_digitIn_37 rfl ?_
      refine gf_X12_139 hx hb hC hw 1 (gM_1 τ ad M9) rfl dX12_digitIn_38 ?_
      refine r_top (fun x11 e11 => ?_)
      have g11 : iR x11 := by rw [e11]; exact hM.get (by decide) _
      have hv := hv x11 e11 g11
      refine r_iconst hx hb dX12_digitIn_41 ?_
      refine r_iadd (z := (x11 + 1)) hx hb dX12_digitIn_42 rfl ?_
      obtain ⟨c12, hv⟩ := hv
      obtain ⟨M13, e13⟩ : ∃ M13 : Mem, M13 = up2 M9 1 15 (x11 + 1) := ⟨_, rfl⟩
      have hv := hv M13 e13
      refine pf_X12_139 (ws' := (WM τ ad M13)) hx hb hC hw 1 (gM_1 τ ad M9) (Nat.le_of_ble_eq_true rfl) (by rw [e13]; exact sM_1_15 τ ad M9 _) dX12_digitIn_43 (fun H locs hw => ?_)
      have hM : MR M13 := by rw [e13]; exact hM.put (by decide) c12
      refine lv_aload_n hx hb dX12_digitIn_46 rfl (lv_at hl 0 rfl) ?_
      refine gf_X12_37 hx hb hC hw 1 (gM_1 τ ad M13) rfl dX12_digitIn_47 ?_
      refine lv_aload_n hx hb dX12_digitIn_50 rfl (lv_at hl 0 rfl) ?_
      refine gf_X12_139 hx hb hC hw 1 (gM_1 τ ad M13) rfl dX12_digitIn_51 ?_
      refine r_top (fun x14 e14 => ?_)
      have g14 : iR x14 := by rw [e14]; exact hM.get (by decide) _
      have hv := hv x14 e14 g14
      refine r_iconst hx hb dX12_digitIn_54 ?_
      refine r_isub (z := (x14 - 1)) hx hb dX12_digitIn_55 rfl ?_
      obtain ⟨c15, hv⟩ := hv
      obtain ⟨c16, hv⟩ := hv
      refine r_iald hx hb hC hw 7 (gI_M aM_7 τ ad M13) c15 c16 (by decide) dX12_digitIn_56 ?_
      refine r_top (fun x17 e17 => ?_)
      have g17 : iR x17 := by rw [e17]; exact hM.get aM_7.pos _
      have hv := hv x17 e17 g17
      refine r_bipush hx hb dX12_digitIn_57 (by decide +kernel) ?_
      refine r_isub (z := (x17 - 48)) hx hb dX12_digitIn_59 rfl ?_
      obtain ⟨c18, hv⟩ := hv
      exact k_iret (wq_M τ ad) hx hb hr hlk hw hM c18 hv dX12_digitIn_60
    · have hv := hv.2 b10
      refine r_iconst hx hb dX12_digitIn_34 ?_
      exact k_iret (wq_M τ ad) hx hb hr hlk hw hM (by decide) hv dX12_digitIn_35
set_option maxHeartbeats 4000000 in
set_option maxRecDepth 100000 in
theorem mX12_readsAct (l : Launch) (D : va_G) (τ : Nat → ClassId) (ad : Nat → Nat) (sA sV : Nat → Nat) (sz : Nat)   (M : Mem) (hM : MR M) (Q : Int → Mem → Prop) (hv : qX12_readsAct  M Q) : Met l yX12_readsAct (lw_w yX12_readsAct cX12_readsAct 2 (some .boolean)) (rmk 6 0 0) (kPc D τ sA sV (WM τ ad M) sz [.ref (ad 1)]) (gQi D (EQz (WM τ ad) MR Q) (va_A (WM τ ad M) sz)) 0 0 (va_A (WM τ ad M) sz) := by
  refine k_met (ret := (some .boolean)) (Qc := gQi D (EQz (WM τ ad) MR Q)) (by decide +kernel) (Nat.le_of_ble_eq_true rfl) ?_
  intro p e s m args below meth c A ls hx hb hml hr hlk hnm hC hLS hA hw hl
  have hC : cx D τ s m args RX12 := hC
  have hl : lv_has ls 2 [(0, .ref (ad 1))] := hl
  unfold qX12_readsAct at hv
  have J69 : ∀ (v1 : Int) (M : Mem) (H : Heap) (locs : List Loc) (ls : Array Slot), MR M → qX12_readsAct_J69  Q v1 M → wS D A s.heap (WM τ ad M) H locs → lv_has ls 2 [(0, .ref (ad 1)), (1, .int (iI v1))] → W p l e (rmk 6 0 0) s m args below meth c H locs 0 0 (MQ below (gQi D (EQz (WM τ ad) MR Q) A) args s 0 0 A) (F0 m 69 ls []) := by
    intro v1 M H locs ls hM hv hw hl
    unfold qX12_readsAct_J69 at hv
    refine lv_aload_n hx hb dX12_readsAct_69 rfl (lv_at hl 0 rfl) ?_
    refine gf_X12_76 hx hb hC hw 1 (gM_1 τ ad M) rfl dX12_readsAct_70 ?_
    refine lv_iload_n hx hb dX12_readsAct_73 rfl (lv_at hl 1 rfl) ?_
    obtain ⟨c15, hv⟩ := hv
    obtain ⟨c16, hv⟩ := hv
    refine r_iald hx hb hC hw 20 (gI_M aM_20 τ ad M) c15 c16 (by decide) dX12_readsAct_74 ?_
    refine r_top (fun x17 e17 => ?_)
    have g17 : iR x17 := by rw [e17]; exact hM.get aM_20.pos _
    have hv := hv x17 e17 g17
    refine r_if_lt (tgt := 82) hx hb dX12_readsAct_75 (by decide) g17  (fun b18 => ?_) (fun b18 => ?_)
    · have hv := hv.1 b18
      refine r_iconst hx hb dX12_readsAct_82 ?_
      exact k_zret (wq_M τ ad) hx hb hr hlk hw hM (by decide) (by decide) hv dX12_readsAct_83
    · have hv := hv.2 b18
      refine r_iconst hx hb dX12_readsAct_78 ?_
      refine lv_goto (tgt := 83) hx hb dX12_readsAct_79 (by decide) ?_
      exact k_zret (wq_M τ ad) hx hb hr hlk hw hM (by decide) (by decide) hv dX12_readsAct_83
  have J105 : ∀ (v1 : Int) (t0 : Int) (t2 : Int) (M : Mem) (H : Heap) (locs : List Loc) (ls : Array Slot), MR M → qX12_readsAct_J105  Q v1 t0 t2 M → wS D A s.heap (WM τ ad M) H locs → lv_has ls 2 [(0, .ref (ad 1)), (1, .int (iI v1))] → W p l e (rmk 6 0 0) s m args below meth c H locs 0 0 (MQ below (gQi D (EQz (WM τ ad) MR Q) A) args s 0 0 A) (F0 m 105 ls [.int (iI t0), .ref (ad 1), .int (iI t2), .ref (ad 21)]) := by
    intro v1 t0 t2 M H locs ls hM hv hw hl
    unfold qX12_readsAct_J105 at hv
    refine r_bipush hx hb dX12_readsAct_105 (by decide +kernel) ?_
    obtain ⟨c23, hv⟩ := hv
    refine k_cVi (wq_M τ ad) hx hb hml hC hLS hA hw hl.1 (mX12_digitIn l D τ ad sA sV _ t0 9 c23 (by decide) M hM _ hv) kX12_digitIn ml_X12_379 rfl (gM_1 τ ad M) rfl rfl (Nat.le_of_ble_eq_true rfl) (rm_ok (by decide) (by decide)) ⟨Nat.zero_le _, Nat.zero_le _⟩ dX12_readsAct_107 (fun x24 M24 H locs g24 hM hv hw => ?_)
    have hv := hv g24
    obtain ⟨c25, hv⟩ := hv
    obtain ⟨c26, hv⟩ := hv
    obtain ⟨M27, e27⟩ : ∃ M27 : Mem, M27 = up2 M24 21 t2 x24 := ⟨_, rfl⟩
    have hv := hv M27 e27
    refine r_iast (ws' := (WM τ ad M27)) hx hb hC hw 21 (gI_M aM_21 τ ad M24) c25 c26 (by decide) (by rw [e27]; exact sI_M aM_21 τ ad M24 _ _) dX12_readsAct_110 (fun H locs hw => ?_)
    have hM : MR M27 := by rw [e27]; exact hM.put aM_21.pos g24
    refine lv_aload_n hx hb dX12_readsAct_111 rfl (lv_at hl 0 rfl) ?_
    refine gf_X12_79 hx hb hC hw 1 (gM_1 τ ad M27) rfl dX12_readsAct_112 ?_
    refine lv_iload_n hx hb dX12_readsAct_115 rfl (lv_at hl 1 rfl) ?_
    obtain ⟨c28, hv⟩ := hv
    obtain ⟨c29, hv⟩ := hv
    refine r_iald hx hb hC hw 21 (gI_M aM_21 τ ad M27) c28 c29 (by decide) dX12_readsAct_116 ?_
    refine r_top (fun x30 e30 => ?_)
    have g30 : iR x30 := by rw [e30]; exact hM.get aM_21.pos _
    have hv := hv x30 e30 g30
    refine r_if_lt (tgt := 124) hx hb dX12_readsAct_117 (by decide) g30  (fun b31 => ?_) (fun b31 => ?_)
    · have hv := hv.1 b31
      refine r_iconst hx hb dX12_readsAct_124 ?_
      exact k_zret (wq_M τ ad) hx hb hr hlk hw hM (by decide) (by decide) hv dX12_readsAct_125
    · have hv := hv.2 b31
      refine r_iconst hx hb dX12_readsAct_120 ?_
      refine lv_goto (tgt := 125) hx hb dX12_readsAct_121 (by decide) ?_
      exact k_zret (wq_M τ ad) hx hb hr hlk hw hM (by decide) (by decide) hv dX12_readsAct_125
  refine lv_aload_n hx hb dX12_readsAct_0 rfl (lv_at hl 0 rfl) ?_
  refine gf_X12_374 hx hb hC hw 1 (gM_1 τ ad M) rfl dX12_readsAct_1 ?_
  refine r_top (fun x1 e1 => ?_)
  have g1 : iR x1 := by rw [e1]; exact hM.get (by decide) _
  have hv := hv x1 e1 g1
  refine lv_istore_n (lv' := [(1, .int (iI x1)), (0, .ref (ad 1))]) hx hb dX12_readsAct_4 rfl hl (by decide) rfl (fun ls hl => ?_)
  refine lv_aload_n hx hb dX12_readsAct_5 rfl (lv_at hl 1 rfl) ?_
  refine gf_X12_73 hx hb hC hw 1 (gM_1 τ ad M) rfl dX12_readsAct_6 ?_
  refine lv_iload_n hx hb dX12_readsAct_9 rfl (lv_at hl 0 rfl) ?_
  refine lv_aload_n hx hb dX12_readsAct_10 rfl (lv_at hl 1 rfl) ?_
  refine k_ldcwS hx hb hC.2.1 (hLS.str_8) dX12_readsAct_11 ?_
  refine k_tcVi (wq_M τ ad) hx hb hml hC hLS hA hw hl.1 (hLS.1 8 (by decide)).2 (mX12_takesOf l D τ ad sA sV _ (sA 8) (sV 8) (bS 8) M hM _ hv) kX12_takesOf ml_X12_182 rfl (gM_1 τ ad M) rfl rfl (Nat.le_of_ble_eq_true rfl) (rm_ok (by decide) (by decide)) ⟨Nat.zero_le _, Nat.zero_le _⟩ dX12_readsAct_14 (fun x2 M2 H locs g2 hM hv hw => ?_)
  have hv := hv g2
  obtain ⟨c3, hv⟩ := hv
  obtain ⟨c4, hv⟩ := hv
  obtain ⟨M5, e5⟩ : ∃ M5 : Mem, M5 = up2 M2 19 x1 x2 := ⟨_, rfl⟩
  have hv := hv M5 e5
  refine r_iast (ws' := (WM τ ad M5)) hx hb hC hw 19 (gI_M aM_19 τ ad M2) c3 c4 (by decide) (by rw [e5]; exact sI_M aM_19 τ ad M2 _ _) dX12_readsAct_17 (fun H locs hw => ?_)
  have hM : MR M5 := by rw [e5]; exact hM.put aM_19.pos g2
  refine lv_aload_n hx hb dX12_readsAct_18 rfl (lv_at hl 1 rfl) ?_
  refine lv_dup hx hb dX12_readsAct_19 rfl ?_
  refine gf_X12_374 hx hb hC hw 1 (gM_1 τ ad M5) rfl dX12_readsAct_20 ?_
  refine r_top (fun x6 e6 => ?_)
  have g6 : iR x6 := by rw [e6]; exact hM.get (by decide) _
  have hv := hv x6 e6 g6
  refine r_iconst hx hb dX12_readsAct_23 ?_
  refine r_iadd (z := (x6 + 1)) hx hb dX12_readsAct_24 rfl ?_
  obtain ⟨c7, hv⟩ := hv
  obtain ⟨M8, e8⟩ : ∃ M8 : Mem, M8 = up2 M5 1 39 (x6 + 1) := ⟨_, rfl⟩
  have hv := hv M8 e8
  refine pf_X12_374 (ws' := (WM τ ad M8)) hx hb hC hw 1 (gM_1 τ ad M5) (Nat.le_of_ble_eq_true rfl) (by rw [e8]; exact sM_1_39 τ ad M5 _) dX12_readsAct_25 (fun H locs hw => ?_)
  have hM : MR M8 := by rw [e8]; exact hM.put (by decide) c7
  refine lv_aload_n hx hb dX12_readsAct_28 rfl (lv_at hl 1 rfl) ?_
  refine gf_X12_73 hx hb hC hw 1 (gM_1 τ ad M8) rfl dX12_readsAct_29 ?_
  refine lv_iload_n hx hb dX12_readsAct_32 rfl (lv_at hl 0 rfl) ?_
  refine r_iald hx hb hC hw 19 (gI_M aM_19 τ ad M8) c3 c4 (by decide) dX12_readsAct_33 ?_
  refine r_top (fun x9 e9 => ?_)
  have g9 : iR x9 := by rw [e9]; exact hM.get aM_19.pos _
  have hv := hv x9 e9 g9
  refine r_if_ge (tgt := 39) hx hb dX12_readsAct_34 (by decide) g9  (fun b10 => ?_) (fun b10 => ?_)
  · have hv := hv.1 b10
    refine lv_aload_n hx hb dX12_readsAct_39 rfl (lv_at hl 1 rfl) ?_
    refine gf_X12_76 hx hb hC hw 1 (gM_1 τ ad M8) rfl dX12_readsAct_40 ?_
    refine lv_iload_n hx hb dX12_readsAct_43 rfl (lv_at hl 0 rfl) ?_
    refine lv_aload_n hx hb dX12_readsAct_44 rfl (lv_at hl 1 rfl) ?_
    refine r_iconst hx hb dX12_readsAct_45 ?_
    refine k_cVi (wq_M τ ad) hx hb hml hC hLS hA hw hl.1 (mX12_number l D τ ad sA sV _ 1 (by decide) M8 hM _ hv) kX12_number ml_X12_189 rfl (gM_1 τ ad M8) rfl rfl (Nat.le_of_ble_eq_true rfl) (rm_ok (by decide) (by decide)) ⟨Nat.zero_le _, Nat.zero_le _⟩ dX12_readsAct_46 (fun x11 M11 H locs g11 hM hv hw => ?_)
    have hv := hv g11
    obtain ⟨M12, e12⟩ : ∃ M12 : Mem, M12 = up2 M11 20 x1 x11 := ⟨_, rfl⟩
    have hv := hv M12 e12
    refine r_iast (ws' := (WM τ ad M12)) hx hb hC hw 20 (gI_M aM_20 τ ad M11) c3 c4 (by decide) (by rw [e12]; exact sI_M aM_20 τ ad M11 _ _) dX12_readsAct_49 (fun H locs hw => ?_)
    have hM : MR M12 := by rw [e12]; exact hM.put aM_20.pos g11
    refine lv_aload_n hx hb dX12_readsAct_50 rfl (lv_at hl 1 rfl) ?_
    refine gf_X12_76 hx hb hC hw 1 (gM_1 τ ad M12) rfl dX12_readsAct_51 ?_
    refine lv_iload_n hx hb dX12_readsAct_54 rfl (lv_at hl 0 rfl) ?_
    refine r_iald hx hb hC hw 20 (gI_M aM_20 τ ad M12) c3 c4 (by decide) dX12_readsAct_55 ?_
    refine r_top (fun x13 e13 => ?_)
    have g13 : iR x13 := by rw [e13]; exact hM.get aM_20.pos _
    have hv := hv x13 e13 g13
    refine r_if_lt (tgt := 69) hx hb dX12_readsAct_56 (by decide) g13  (fun b14 => ?_) (fun b14 => ?_)
    · have hv := hv.1 b14
      exact J69 x1 M12 _ _ _ hM hv hw (lv_sub hl [1, 0] rfl)
    · have hv := hv.2 b14
      refine lv_aload_n hx hb dX12_readsAct_59 rfl (lv_at hl 1 rfl) ?_
      refine gf_X12_73 hx hb hC hw 1 (gM_1 τ ad M12) rfl dX12_readsAct_60 ?_
      refine lv_iload_n hx hb dX12_readsAct_63 rfl (lv_at hl 0 rfl) ?_
      refine r_iald hx hb hC hw 19 (gI_M aM_19 τ ad M12) c3 c4 (by decide) dX12_readsAct_64 ?_
      refine r_top (fun x19 e19 => ?_)
      have g19 : iR x19 := by rw [e19]; exact hM.get aM_19.pos _
      have hv := hv x19 e19 g19
      refine r_iconst hx hb dX12_readsAct_65 ?_
      refine r_icmp_ge (tgt := 84) hx hb dX12_readsAct_66 (by decide) g19 (by decide) (fun b20 => ?_) (fun b20 => ?_)
      · have hv := hv.1 b20
        refine lv_aload_n hx hb dX12_readsAct_84 rfl (lv_at hl 1 rfl) ?_
        refine gf_X12_79 hx hb hC hw 1 (gM_1 τ ad M12) rfl dX12_readsAct_85 ?_
        refine lv_iload_n hx hb dX12_readsAct_88 rfl (lv_at hl 0 rfl) ?_
        refine lv_aload_n hx hb dX12_readsAct_89 rfl (lv_at hl 1 rfl) ?_
        refine lv_aload_n hx hb dX12_readsAct_90 rfl (lv_at hl 1 rfl) ?_
        refine gf_X12_73 hx hb hC hw 1 (gM_1 τ ad M12) rfl dX12_readsAct_91 ?_
        refine lv_iload_n hx hb dX12_readsAct_94 rfl (lv_at hl 0 rfl) ?_
        refine r_iald hx hb hC hw 19 (gI_M aM_19 τ ad M12) c3 c4 (by decide) dX12_readsAct_95 ?_
        refine r_top (fun x21 e21 => ?_)
        have g21 : iR x21 := by rw [e21]; exact hM.get aM_19.pos _
        have hv := hv x21 e21 g21
        refine r_iconst hx hb dX12_readsAct_96 ?_
        refine r_icmp_ne (tgt := 104) hx hb dX12_readsAct_97 (by decide) g21 (by decide) (fun b22 => ?_) (fun b22 => ?_)
        · have hv := hv.1 b22
          refine r_iconst hx hb dX12_readsAct_104 ?_
          exact J105 x1 1 x1 M12 _ _ _ hM hv hw (lv_sub hl [1, 0] rfl)
        · have hv := hv.2 b22
          refine r_iconst hx hb dX12_readsAct_100 ?_
          refine lv_goto (tgt := 105) hx hb dX12_readsAct_101 (by decide) ?_
          exact J105 x1 0 x1 M12 _ _ _ hM hv hw (lv_sub hl [1, 0] rfl)
      · have hv := hv.2 b20
        exact J69 x1 M12 _ _ _ hM hv hw (lv_sub hl [1, 0] rfl)
  · have hv := hv.2 b10
    refine r_iconst hx hb dX12_readsAct_37 ?_
    exact k_zret (wq_M τ ad) hx hb hr hlk hw hM (by decide) (by decide) hv dX12_readsAct_38
set_option maxHeartbeats 4000000 in
set_option maxRecDepth 100000 in
theorem mX12_hour (l : Launch) (D : va_G) (τ : Nat → ClassId) (ad : Nat → Nat) (sA sV : Nat → Nat) (sz : Nat)   (M : Mem) (hM : MR M) (Q : Int → Mem → Prop) (hv : qX12_hour  M Q) : Met l yX12_hour (lw_w yX12_hour cX12_hour 5 (some .int)) (rmk 8 0 0) (kPc D τ sA sV (WM τ ad M) sz [.ref (ad 1)]) (gQi D (EQi (WM τ ad) MR Q) (va_A (WM τ ad M) sz)) 0 0 (va_A (WM τ ad M) sz) := by
  refine k_met (ret := (some .int)) (Qc := gQi D (EQi (WM τ ad) MR Q)) (by decide +kernel) (Nat.le_of_ble_eq_true rfl) ?_
  intro p e s m args below meth c A ls hx hb hml hr hlk hnm hC hLS hA hw hl
  have hC : cx D τ s m args RX12 := hC
  have hl : lv_has ls 5 [(0, .ref (ad 1))] := hl
  unfold qX12_hour at hv
  have L19 : ∀ (X42 : Int → Int → Mem → Prop), (∀ (v1 : Int) (v2 : Int) (M : Mem) (H : Heap) (locs : List Loc) (ls : Array Slot), MR M → X42 v1 v2 M → wS D A s.heap (WM τ ad M) H locs → lv_has ls 5 [(0, .ref (ad 1)), (1, .int (iI v1)), (2, .int (iI v2))] → W p l e (rmk 8 0 0) s m args below meth c H locs 0 0 (MQ below (gQi D (EQi (WM τ ad) MR Q) A) args s 0 0 A) (F0 m 42 ls [])) → ∀ (n : Nat) (v1 : Int) (v2 : Int) (M : Mem) (H : Heap) (locs : List Loc) (ls : Array Slot), MR M → qX12_hour_L19  X42 Q n v1 v2 M → wS D A s.heap (WM τ ad M) H locs → lv_has ls 5 [(0, .ref (ad 1)), (1, .int (iI v1)), (2, .int (iI v2))] → W p l e (rmk 8 0 0) s m args below meth c H locs 0 0 (MQ below (gQi D (EQi (WM τ ad) MR Q) A) args s 0 0 A) (F0 m 19 ls []) := by
    intro X42 hX42 n
    induction n with
    | zero => intro v1 v2 M H locs ls hM hv; rw [qX12_hour_L19] at hv; exact hv.elim
    | succ n ih =>
      intro v1 v2 M H locs ls hM hv hw hl
      rw [qX12_hour_L19] at hv
      refine lv_iload_n hx hb dX12_hour_19 rfl (lv_at hl 2 rfl) ?_
      obtain ⟨c4, hv⟩ := hv
      refine r_if_eq (tgt := 42) hx hb dX12_hour_20 (by decide) c4  (fun b5 => ?_) (fun b5 => ?_)
      · have hv := hv.1 b5
        exact hX42 v1 v2 M _ _ _ hM hv hw (lv_sub hl [0, 1, 2] rfl)
      · have hv := hv.2 b5
        refine lv_aload_n hx hb dX12_hour_23 rfl (lv_at hl 0 rfl) ?_
        refine gf_X12_139 hx hb hC hw 1 (gM_1 τ ad M) rfl dX12_hour_24 ?_
        refine r_top (fun x6 e6 => ?_)
        have g6 : iR x6 := by rw [e6]; exact hM.get (by decide) _
        have hv := hv x6 e6 g6
        refine lv_aload_n hx hb dX12_hour_27 rfl (lv_at hl 0 rfl) ?_
        refine gf_X12_151 hx hb hC hw 1 (gM_1 τ ad M) rfl dX12_hour_28 ?_
        refine r_top (fun x7 e7 => ?_)
        have g7 : iR x7 := by rw [e7]; exact hM.get (by decide) _
        have hv := hv x7 e7 g7
        refine r_icmp_ge (tgt := 42) hx hb dX12_hour_31 (by decide) g6 g7 (fun b8 => ?_) (fun b8 => ?_)
        · have hv := hv.1 b8
          exact hX42 v1 v2 M _ _ _ hM hv hw (lv_sub hl [0, 1, 2] rfl)
        · have hv := hv.2 b8
          refine lv_aload_n hx hb dX12_hour_34 rfl (lv_at hl 0 rfl) ?_
          refine k_cVz (wq_M τ ad) hx hb hml hC hLS hA hw hl.1 (mX12_readsAct l D τ ad sA sV _   M hM _ hv) kX12_readsAct ml_X12_382 rfl (gM_1 τ ad M) rfl rfl (Nat.le_of_ble_eq_true rfl) (rm_ok (by decide) (by decide)) ⟨Nat.zero_le _, Nat.zero_le _⟩ dX12_hour_35 (fun x9 M9 H locs g9 z9 hM hv hw => ?_)
          have hv := hv g9 z9
          refine lv_istore_n (lv' := [(2, .int (iI x9)), (0, .ref (ad 1)), (1, .int (iI v1))]) hx hb dX12_hour_38 rfl hl (by decide) rfl (fun ls hl => ?_)
          refine lv_goto (tgt := 19) hx hb dX12_hour_39 (by decide) ?_
          exact ih v1 x9 M9 _ _ _ hM hv hw (lv_sub hl [1, 2, 0] rfl)
  have L64 : ∀ (X88 : Int → Mem → Prop), (∀ (v4 : Int) (M : Mem) (H : Heap) (locs : List Loc) (ls : Array Slot), MR M → X88 v4 M → wS D A s.heap (WM τ ad M) H locs → lv_has ls 5 [(0, .ref (ad 1)), (4, .int (iI v4))] → W p l e (rmk 8 0 0) s m args below meth c H locs 0 0 (MQ below (gQi D (EQi (WM τ ad) MR Q) A) args s 0 0 A) (F0 m 88 ls [])) → ∀ (n : Nat) (v4 : Int) (M : Mem) (H : Heap) (locs : List Loc) (ls : Array Slot), MR M → qX12_hour_L64  X88 Q n v4 M → wS D A s.heap (WM τ ad M) H locs → lv_has ls 5 [(0, .ref (ad 1)), (4, .int (iI v4))] → W p l e (rmk 8 0 0) s m args below meth c H locs 0 0 (MQ below (gQi D (EQi (WM τ ad) MR Q) A) args s 0 0 A) (F0 m 64 ls []) := by
    intro X88 hX88 n
    induction n with
    | zero => intro v4 M H locs ls hM hv; rw [qX12_hour_L64] at hv; exact hv.elim
    | succ n ih =>
      intro v4 M H locs ls hM hv hw hl
      rw [qX12_hour_L64] at hv
      refine lv_iload hx hb dX12_hour_64 (lv_at hl 1 rfl) ?_
      refine lv_aload_n hx hb dX12_hour_66 rfl (lv_at hl 0 rfl) ?_
      refine gf_X12_374 hx hb hC hw 1 (gM_1 τ ad M) rfl dX12_hour_67 ?_
      refine r_top (fun x16 e16 => ?_)
      have g16 : iR x16 := by rw [e16]; exact hM.get (by decide) _
      have hv := hv x16 e16 g16
      obtain ⟨c17, hv⟩ := hv
      refine r_icmp_ge (tgt := 88) hx hb dX12_hour_70 (by decide) c17 g16 (fun b18 => ?_) (fun b18 => ?_)
      · have hv := hv.1 b18
        exact hX88 v4 M _ _ _ hM hv hw (lv_sub hl [0, 1] rfl)
      · have hv := hv.2 b18
        refine lv_aload_n hx hb dX12_hour_73 rfl (lv_at hl 0 rfl) ?_
        refine lv_iload hx hb dX12_hour_74 (lv_at hl 1 rfl) ?_
        refine k_cVz (wq_M τ ad) hx hb hml hC hLS hA hw hl.1 (mX12_does l D τ ad sA sV _ v4 c17 M hM _ hv) kX12_does ml_X12_385 rfl (gM_1 τ ad M) rfl rfl (Nat.le_of_ble_eq_true rfl) (rm_ok (by decide) (by decide)) ⟨Nat.zero_le _, Nat.zero_le _⟩ dX12_hour_76 (fun x19 M19 H locs g19 z19 hM hv hw => ?_)
        have hv := hv g19 z19
        refine r_if_eq (tgt := 88) hx hb dX12_hour_79 (by decide) g19  (fun b20 => ?_) (fun b20 => ?_)
        · have hv := hv.1 b20
          exact hX88 v4 M19 _ _ _ hM hv hw (lv_sub hl [0, 1] rfl)
        · have hv := hv.2 b20
          refine r_iinc (v := (v4 + 1)) (lv' := [(4, .int (iI (v4 + 1))), (0, .ref (ad 1))]) hx hb dX12_hour_82 hl (k := 1) rfl rfl (by decide) rfl (fun ls hl => ?_)
          refine lv_goto (tgt := 64) hx hb dX12_hour_85 (by decide) ?_
          exact ih (v4 + 1) M19 _ _ _ hM hv hw (lv_sub hl [1, 0] rfl)
  have J108 : ∀ (v4 : Int) (t0 : Int) (M : Mem) (H : Heap) (locs : List Loc) (ls : Array Slot), MR M → qX12_hour_J108  Q v4 t0 M → wS D A s.heap (WM τ ad M) H locs → lv_has ls 5 [(0, .ref (ad 1)), (4, .int (iI v4))] → W p l e (rmk 8 0 0) s m args below meth c H locs 0 0 (MQ below (gQi D (EQi (WM τ ad) MR Q) A) args s 0 0 A) (F0 m 108 ls [.int (iI t0), .ref (ad 1)]) := by
    intro v4 t0 M H locs ls hM hv hw hl
    unfold qX12_hour_J108 at hv
    obtain ⟨c26, hv⟩ := hv
    refine k_cSi (wq_M τ ad) hx hb hml hC hLS hA hw hl.1 (mX12_flag l D τ ad sA sV _ t0 c26 M hM _ hv) kX12_flag ml_X12_154 rfl rfl (Nat.le_of_ble_eq_true rfl) (rm_ok (by decide) (by decide)) ⟨Nat.zero_le _, Nat.zero_le _⟩ dX12_hour_108 (fun x27 M27 H locs g27 hM hv hw => ?_)
    have hv := hv g27
    refine r_i2l hx hb dX12_hour_111 g27 ?_
    refine k_cVv (wq_M τ ad) hx hb hml hC hLS hA hw hl.1 (mX12_enters l D τ ad sA sV _ x27 (iR_lR g27) M27 hM _ hv) kX12_enters ml_X12_358 rfl (gM_1 τ ad M27) rfl rfl (Nat.le_of_ble_eq_true rfl) (rm_ok (by decide) (by decide)) ⟨Nat.zero_le _, Nat.zero_le _⟩ dX12_hour_112 (fun M28 H locs hM hv hw => ?_)
    refine lv_aload_n hx hb dX12_hour_115 rfl (lv_at hl 0 rfl) ?_
    refine lv_aload_n hx hb dX12_hour_116 rfl (lv_at hl 0 rfl) ?_
    refine gf_X12_31 hx hb hC hw 1 (gM_1 τ ad M28) rfl dX12_hour_117 ?_
    refine r_bipush hx hb dX12_hour_120 (by decide +kernel) ?_
    refine r_iald hx hb hC hw 5 (gI_M aM_5 τ ad M28) (by decide) (by decide) (by decide) dX12_hour_122 ?_
    refine r_top (fun x29 e29 => ?_)
    have g29 : iR x29 := by rw [e29]; exact hM.get aM_5.pos _
    have hv := hv x29 e29 g29
    refine r_i2l hx hb dX12_hour_123 g29 ?_
    refine k_cVv (wq_M τ ad) hx hb hml hC hLS hA hw hl.1 (mX12_enters l D τ ad sA sV _ x29 (iR_lR g29) M28 hM _ hv) kX12_enters ml_X12_358 rfl (gM_1 τ ad M28) rfl rfl (Nat.le_of_ble_eq_true rfl) (rm_ok (by decide) (by decide)) ⟨Nat.zero_le _, Nat.zero_le _⟩ dX12_hour_124 (fun M30 H locs hM hv hw => ?_)
    refine lv_iload hx hb dX12_hour_127 (lv_at hl 1 rfl) ?_
    obtain ⟨c31, hv⟩ := hv
    refine r_if_le (tgt := 141) hx hb dX12_hour_129 (by decide) c31  (fun b32 => ?_) (fun b32 => ?_)
    · have hv := hv.1 b32
      refine r_iconst hx hb dX12_hour_141 ?_
      exact k_iret (wq_M τ ad) hx hb hr hlk hw hM (by decide) hv dX12_hour_142
    · have hv := hv.2 b32
      refine lv_aload_n hx hb dX12_hour_132 rfl (lv_at hl 0 rfl) ?_
      refine lv_iload hx hb dX12_hour_133 (lv_at hl 1 rfl) ?_
      refine k_cVi (wq_M τ ad) hx hb hml hC hLS hA hw hl.1 (mX12_adds l D τ ad sA sV _ v4 c31 M30 hM _ hv) kX12_adds ml_X12_318 rfl (gM_1 τ ad M30) rfl rfl (Nat.le_of_ble_eq_true rfl) (rm_ok (by decide) (by decide)) ⟨Nat.zero_le _, Nat.zero_le _⟩ dX12_hour_135 (fun x33 M33 H locs g33 hM hv hw => ?_)
      have hv := hv g33
      refine lv_goto (tgt := 142) hx hb dX12_hour_138 (by decide) ?_
      exact k_iret (wq_M τ ad) hx hb hr hlk hw hM g33 hv dX12_hour_142
  have J88 : ∀ (v4 : Int) (M : Mem) (H : Heap) (locs : List Loc) (ls : Array Slot), MR M → qX12_hour_J88  Q v4 M → wS D A s.heap (WM τ ad M) H locs → lv_has ls 5 [(0, .ref (ad 1)), (4, .int (iI v4))] → W p l e (rmk 8 0 0) s m args below meth c H locs 0 0 (MQ below (gQi D (EQi (WM τ ad) MR Q) A) args s 0 0 A) (F0 m 88 ls []) := by
    intro v4 M H locs ls hM hv hw hl
    unfold qX12_hour_J88 at hv
    refine lv_aload_n hx hb dX12_hour_88 rfl (lv_at hl 0 rfl) ?_
    refine r_iconst hx hb dX12_hour_89 ?_
    obtain ⟨M22, e22⟩ : ∃ M22 : Mem, M22 = up2 M 1 1 0 := ⟨_, rfl⟩
    have hv := hv M22 e22
    refine pf_X12_119 (ws' := (WM τ ad M22)) hx hb hC hw 1 (gM_1 τ ad M) (Nat.le_of_ble_eq_true rfl) (by rw [e22]; exact sM_1_1 τ ad M _) dX12_hour_90 (fun H locs hw => ?_)
    have hM : MR M22 := by rw [e22]; exact hM.put (by decide) (by decide)
    refine lv_aload_n hx hb dX12_hour_93 rfl (lv_at hl 0 rfl) ?_
    refine lv_iload hx hb dX12_hour_94 (lv_at hl 1 rfl) ?_
    refine lv_aload_n hx hb dX12_hour_96 rfl (lv_at hl 0 rfl) ?_
    refine gf_X12_374 hx hb hC hw 1 (gM_1 τ ad M22) rfl dX12_hour_97 ?_
    refine r_top (fun x23 e23 => ?_)
    have g23 : iR x23 := by rw [e23]; exact hM.get (by decide) _
    have hv := hv x23 e23 g23
    obtain ⟨c24, hv⟩ := hv
    refine r_icmp_ge (tgt := 107) hx hb dX12_hour_100 (by decide) c24 g23 (fun b25 => ?_) (fun b25 => ?_)
    · have hv := hv.1 b25
      refine r_iconst hx hb dX12_hour_107 ?_
      exact J108 v4 0 M22 _ _ _ hM hv hw (lv_sub hl [0, 1] rfl)
    · have hv := hv.2 b25
      refine r_iconst hx hb dX12_hour_103 ?_
      refine lv_goto (tgt := 108) hx hb dX12_hour_104 (by decide) ?_
      exact J108 v4 1 M22 _ _ _ hM hv hw (lv_sub hl [0, 1] rfl)
  have J42 : ∀ (v1 : Int) (v2 : Int) (M : Mem) (H : Heap) (locs : List Loc) (ls : Array Slot), MR M → qX12_hour_J42  Q v1 v2 M → wS D A s.heap (WM τ ad M) H locs → lv_has ls 5 [(0, .ref (ad 1)), (1, .int (iI v1)), (2, .int (iI v2))] → W p l e (rmk 8 0 0) s m args below meth c H locs 0 0 (MQ below (gQi D (EQi (WM τ ad) MR Q) A) args s 0 0 A) (F0 m 42 ls []) := by
    intro v1 v2 M H locs ls hM hv hw hl
    unfold qX12_hour_J42 at hv
    refine lv_aload_n hx hb dX12_hour_42 rfl (lv_at hl 0 rfl) ?_
    refine lv_iload_n hx hb dX12_hour_43 rfl (lv_at hl 1 rfl) ?_
    refine r_bipush hx hb dX12_hour_44 (by decide +kernel) ?_
    refine lv_iload_n hx hb dX12_hour_46 rfl (lv_at hl 2 rfl) ?_
    obtain ⟨c11, hv⟩ := hv
    obtain ⟨c12, hv⟩ := hv
    refine k_cVi (wq_M τ ad) hx hb hml hC hLS hA hw hl.1 (mX12_faultOf l D τ ad sA sV _ v1 60 v2 c11 (by decide) c12 M hM _ hv) kX12_faultOf ml_X12_221 rfl (gM_1 τ ad M) rfl rfl (Nat.le_of_ble_eq_true rfl) (rm_ok (by decide) (by decide)) ⟨Nat.zero_le _, Nat.zero_le _⟩ dX12_hour_47 (fun x13 M13 H locs g13 hM hv hw => ?_)
    have hv := hv g13
    refine lv_istore_n (lv' := [(3, .int (iI x13)), (0, .ref (ad 1)), (1, .int (iI v1)), (2, .int (iI v2))]) hx hb dX12_hour_50 rfl hl (by decide) rfl (fun ls hl => ?_)
    refine lv_iload_n hx hb dX12_hour_51 rfl (lv_at hl 0 rfl) ?_
    refine r_if_ge (tgt := 57) hx hb dX12_hour_52 (by decide) g13  (fun b14 => ?_) (fun b14 => ?_)
    · have hv := hv.1 b14
      refine lv_aload_n hx hb dX12_hour_57 rfl (lv_at hl 1 rfl) ?_
      refine k_cVv (wq_M τ ad) hx hb hml hC hLS hA hw hl.1 (mX12_putsBy l D τ ad sA sV _   M13 hM _ hv) kX12_putsBy ml_X12_352 rfl (gM_1 τ ad M13) rfl rfl (Nat.le_of_ble_eq_true rfl) (rm_ok (by decide) (by decide)) ⟨Nat.zero_le _, Nat.zero_le _⟩ dX12_hour_58 (fun M15 H locs hM hv hw => ?_)
      refine r_iconst hx hb dX12_hour_61 ?_
      refine lv_istore (lv' := [(4, .int (iI 0)), (3, .int (iI x13)), (0, .ref (ad 1)), (1, .int (iI v1)), (2, .int (iI v2))]) hx hb dX12_hour_62 hl (by decide) rfl (fun ls hl => ?_)
      obtain ⟨n21, hv⟩ := hv
      refine L64 _ ?_ n21 0 M15 _ _ _ hM hv hw (lv_sub hl [2, 0] rfl)
      · intro v4 M H locs ls hM hv hw hl
        exact J88 v4 M _ _ _ hM hv hw (lv_sub hl [0, 1] rfl)
    · have hv := hv.2 b14
      refine lv_iload_n hx hb dX12_hour_55 rfl (lv_at hl 0 rfl) ?_
      exact k_iret (wq_M τ ad) hx hb hr hlk hw hM g13 hv dX12_hour_56
  refine lv_aload_n hx hb dX12_hour_0 rfl (lv_at hl 0 rfl) ?_
  refine r_iconst hx hb dX12_hour_1 ?_
  obtain ⟨M1, e1⟩ : ∃ M1 : Mem, M1 = up2 M 1 0 0 := ⟨_, rfl⟩
  have hv := hv M1 e1
  refine pf_X12_112 (ws' := (WM τ ad M1)) hx hb hC hw 1 (gM_1 τ ad M) (Nat.le_of_ble_eq_true rfl) (by rw [e1]; exact sM_1_0 τ ad M _) dX12_hour_2 (fun H locs hw => ?_)
  have hM : MR M1 := by rw [e1]; exact hM.put (by decide) (by decide)
  refine lv_aload_n hx hb dX12_hour_5 rfl (lv_at hl 0 rfl) ?_
  refine r_bipush hx hb dX12_hour_6 (by decide +kernel) ?_
  refine k_cVi (wq_M τ ad) hx hb hml hC hLS hA hw hl.1 (mX12_begins l D τ ad sA sV _ 60 (by decide) M1 hM _ hv) kX12_begins ml_X12_176 rfl (gM_1 τ ad M1) rfl rfl (Nat.le_of_ble_eq_true rfl) (rm_ok (by decide) (by decide)) ⟨Nat.zero_le _, Nat.zero_le _⟩ dX12_hour_8 (fun x2 M2 H locs g2 hM hv hw => ?_)
  have hv := hv g2
  refine lv_istore_n (lv' := [(1, .int (iI x2)), (0, .ref (ad 1))]) hx hb dX12_hour_11 rfl hl (by decide) rfl (fun ls hl => ?_)
  refine lv_aload_n hx hb dX12_hour_12 rfl (lv_at hl 1 rfl) ?_
  refine r_iconst hx hb dX12_hour_13 ?_
  obtain ⟨M3, e3⟩ : ∃ M3 : Mem, M3 = up2 M2 1 39 0 := ⟨_, rfl⟩
  have hv := hv M3 e3
  refine pf_X12_374 (ws' := (WM τ ad M3)) hx hb hC hw 1 (gM_1 τ ad M2) (Nat.le_of_ble_eq_true rfl) (by rw [e3]; exact sM_1_39 τ ad M2 _) dX12_hour_14 (fun H locs hw => ?_)
  have hM : MR M3 := by rw [e3]; exact hM.put (by decide) (by decide)
  refine r_iconst hx hb dX12_hour_17 ?_
  refine lv_istore_n (lv' := [(2, .int (iI 1)), (1, .int (iI x2)), (0, .ref (ad 1))]) hx hb dX12_hour_18 rfl hl (by decide) rfl (fun ls hl => ?_)
  obtain ⟨n10, hv⟩ := hv
  refine L19 _ ?_ n10 x2 1 M3 _ _ _ hM hv hw (lv_sub hl [2, 1, 0] rfl)
  · intro v1 v2 M H locs ls hM hv hw hl
    exact J42 v1 v2 M _ _ _ hM hv hw (lv_sub hl [0, 1, 2] rfl)
set_option maxHeartbeats 4000000 in
set_option maxRecDepth 100000 in
theorem mX12_line (l : Launch) (D : va_G) (τ : Nat → ClassId) (ad : Nat → Nat) (sA sV : Nat → Nat) (sz : Nat)   (M : Mem) (hM : MR M) (Q : Int → Mem → Prop) (hv : qX12_line  M Q) : Met l yX12_line (lw_w yX12_line cX12_line 2 (some .int)) (rmk 3 0 0) (kPc D τ sA sV (WM τ ad M) sz [.ref (ad 1)]) (gQi D (EQi (WM τ ad) MR Q) (va_A (WM τ ad M) sz)) 0 0 (va_A (WM τ ad M) sz) := by
  refine k_met (ret := (some .int)) (Qc := gQi D (EQi (WM τ ad) MR Q)) (by decide +kernel) (Nat.le_of_ble_eq_true rfl) ?_
  intro p e s m args below meth c A ls hx hb hml hr hlk hnm hC hLS hA hw hl
  have hC : cx D τ s m args RX12 := hC
  have hl : lv_has ls 2 [(0, .ref (ad 1))] := hl
  unfold qX12_line at hv
  have L20 : ∀ (n : Nat) (v1 : Int) (M : Mem) (H : Heap) (locs : List Loc) (ls : Array Slot), MR M → qX12_line_L20   Q n v1 M → wS D A s.heap (WM τ ad M) H locs → lv_has ls 2 [(0, .ref (ad 1)), (1, .int (iI v1))] → W p l e (rmk 3 0 0) s m args below meth c H locs 0 0 (MQ below (gQi D (EQi (WM τ ad) MR Q) A) args s 0 0 A) (F0 m 20 ls []) := by
    intro n
    induction n with
    | zero => intro v1 M H locs ls hM hv; rw [qX12_line_L20] at hv; exact hv.elim
    | succ n ih =>
      intro v1 M H locs ls hM hv hw hl
      rw [qX12_line_L20] at hv
      refine lv_iload_n hx hb dX12_line_20 rfl (lv_at hl 1 rfl) ?_
      refine lv_aload_n hx hb dX12_line_21 rfl (lv_at hl 0 rfl) ?_
      refine gf_X12_321 hx hb hC hw 1 (gM_1 τ ad M) rfl dX12_line_22 ?_
      refine r_top (fun x4 e4 => ?_)
      have g4 : iR x4 := by rw [e4]; exact hM.get (by decide) _
      have hv := hv x4 e4 g4
      obtain ⟨c5, hv⟩ := hv
      refine r_icmp_ge (tgt := 45) hx hb dX12_line_25 (by decide) c5 g4 (fun b6 => ?_) (fun b6 => ?_)
      · have hv := hv.1 b6
        refine lv_aload_n hx hb dX12_line_45 rfl (lv_at hl 0 rfl) ?_
        refine gf_X12_321 hx hb hC hw 1 (gM_1 τ ad M) rfl dX12_line_46 ?_
        refine r_top (fun x7 e7 => ?_)
        have g7 : iR x7 := by rw [e7]; exact hM.get (by decide) _
        have hv := hv x7 e7 g7
        exact k_iret (wq_M τ ad) hx hb hr hlk hw hM g7 hv dX12_line_49
      · have hv := hv.2 b6
        refine lv_aload_n hx hb dX12_line_28 rfl (lv_at hl 0 rfl) ?_
        refine lv_aload_n hx hb dX12_line_29 rfl (lv_at hl 0 rfl) ?_
        refine gf_X12_70 hx hb hC hw 1 (gM_1 τ ad M) rfl dX12_line_30 ?_
        refine lv_iload_n hx hb dX12_line_33 rfl (lv_at hl 1 rfl) ?_
        obtain ⟨c8, hv⟩ := hv
        obtain ⟨c9, hv⟩ := hv
        refine r_iald hx hb hC hw 18 (gI_M aM_18 τ ad M) c8 c9 (by decide) dX12_line_34 ?_
        refine r_top (fun x10 e10 => ?_)
        have g10 : iR x10 := by rw [e10]; exact hM.get aM_18.pos _
        have hv := hv x10 e10 g10
        refine r_i2l hx hb dX12_line_35 g10 ?_
        refine k_cVv (wq_M τ ad) hx hb hml hC hLS hA hw hl.1 (mX12_enters l D τ ad sA sV _ x10 (iR_lR g10) M hM _ hv) kX12_enters ml_X12_358 rfl (gM_1 τ ad M) rfl rfl (Nat.le_of_ble_eq_true rfl) (rm_ok (by decide) (by decide)) ⟨Nat.zero_le _, Nat.zero_le _⟩ dX12_line_36 (fun M11 H locs hM hv hw => ?_)
        refine r_iinc (v := (v1 + 1)) (lv' := [(1, .int (iI (v1 + 1))), (0, .ref (ad 1))]) hx hb dX12_line_39 hl (k := 1) rfl rfl (by decide) rfl (fun ls hl => ?_)
        refine lv_goto (tgt := 20) hx hb dX12_line_42 (by decide) ?_
        exact ih (v1 + 1) M11 _ _ _ hM hv hw (lv_sub hl [1, 0] rfl)
  refine lv_aload_n hx hb dX12_line_0 rfl (lv_at hl 0 rfl) ?_
  refine r_iconst hx hb dX12_line_1 ?_
  obtain ⟨M1, e1⟩ : ∃ M1 : Mem, M1 = up2 M 1 0 0 := ⟨_, rfl⟩
  have hv := hv M1 e1
  refine pf_X12_112 (ws' := (WM τ ad M1)) hx hb hC hw 1 (gM_1 τ ad M) (Nat.le_of_ble_eq_true rfl) (by rw [e1]; exact sM_1_0 τ ad M _) dX12_line_2 (fun H locs hw => ?_)
  have hM : MR M1 := by rw [e1]; exact hM.put (by decide) (by decide)
  refine lv_aload_n hx hb dX12_line_5 rfl (lv_at hl 0 rfl) ?_
  refine lv_aload_n hx hb dX12_line_6 rfl (lv_at hl 0 rfl) ?_
  refine gf_X12_31 hx hb hC hw 1 (gM_1 τ ad M1) rfl dX12_line_7 ?_
  refine k_cVv (wq_M τ ad) hx hb hml hC hLS hA hw hl.1 (mX12_laysLine l D τ ad sA sV _ 5 aM_5 M1 hM _ hv) kX12_laysLine ml_X12_333 rfl (gM_1 τ ad M1) rfl rfl (Nat.le_of_ble_eq_true rfl) (rm_ok (by decide) (by decide)) ⟨Nat.zero_le _, Nat.zero_le _⟩ dX12_line_10 (fun M2 H locs hM hv hw => ?_)
  refine lv_aload_n hx hb dX12_line_13 rfl (lv_at hl 0 rfl) ?_
  refine r_iconst hx hb dX12_line_14 ?_
  obtain ⟨M3, e3⟩ : ∃ M3 : Mem, M3 = up2 M2 1 1 0 := ⟨_, rfl⟩
  have hv := hv M3 e3
  refine pf_X12_119 (ws' := (WM τ ad M3)) hx hb hC hw 1 (gM_1 τ ad M2) (Nat.le_of_ble_eq_true rfl) (by rw [e3]; exact sM_1_1 τ ad M2 _) dX12_line_15 (fun H locs hw => ?_)
  have hM : MR M3 := by rw [e3]; exact hM.put (by decide) (by decide)
  refine r_iconst hx hb dX12_line_18 ?_
  refine lv_istore_n (lv' := [(1, .int (iI 0)), (0, .ref (ad 1))]) hx hb dX12_line_19 rfl hl (by decide) rfl (fun ls hl => ?_)
  obtain ⟨n12, hv⟩ := hv
  refine L20  n12 0 M3 _ _ _ hM hv hw (lv_sub hl [1, 0] rfl)
set_option maxHeartbeats 4000000 in
set_option maxRecDepth 100000 in
theorem mX12_copies (l : Launch) (D : va_G) (τ : Nat → ClassId) (ad : Nat → Nat) (sA sV : Nat → Nat) (sz : Nat)   (M : Mem) (hM : MR M) (Q : Mem → Prop) (hv : qX12_copies  M Q) : Met l yX12_copies (lw_w yX12_copies cX12_copies 2 none) (rmk 1 0 0) (kPc D τ sA sV (WM τ ad M) sz [.ref (ad 1)]) (gQv D (EQv (WM τ ad) MR Q) (va_A (WM τ ad M) sz)) 0 0 (va_A (WM τ ad M) sz) := by
  refine k_met (ret := none) (Qc := gQv D (EQv (WM τ ad) MR Q)) (by decide +kernel) (Nat.le_of_ble_eq_true rfl) ?_
  intro p e s m args below meth c A ls hx hb hml hr hlk hnm hC hLS hA hw hl
  have hC : cx D τ s m args RX12 := hC
  have hl : lv_has ls 2 [(0, .ref (ad 1))] := hl
  unfold qX12_copies at hv
  have L2 : ∀ (n : Nat) (v1 : Int) (M : Mem) (H : Heap) (locs : List Loc) (ls : Array Slot), MR M → qX12_copies_L2   Q n v1 M → wS D A s.heap (WM τ ad M) H locs → lv_has ls 2 [(0, .ref (ad 1)), (1, .int (iI v1))] → W p l e (rmk 1 0 0) s m args below meth c H locs 0 0 (MQ below (gQv D (EQv (WM τ ad) MR Q) A) args s 0 0 A) (F0 m 2 ls []) := by
    intro n
    induction n with
    | zero => intro v1 M H locs ls hM hv; rw [qX12_copies_L2] at hv; exact hv.elim
    | succ n ih =>
      intro v1 M H locs ls hM hv hw hl
      rw [qX12_copies_L2] at hv
      refine lv_iload_n hx hb dX12_copies_2 rfl (lv_at hl 1 rfl) ?_
      refine r_bipush hx hb dX12_copies_3 (by decide +kernel) ?_
      obtain ⟨c1, hv⟩ := hv
      refine r_icmp_ge (tgt := 26) hx hb dX12_copies_5 (by decide) c1 (by decide) (fun b2 => ?_) (fun b2 => ?_)
      · have hv := hv.1 b2
        exact k_vret (wq_M τ ad) hx hb hr hlk hw hM hv dX12_copies_26
      · have hv := hv.2 b2
        refine lv_aload_n hx hb dX12_copies_8 rfl (lv_at hl 0 rfl) ?_
        refine gf_X12_34 hx hb hC hw 1 (gM_1 τ ad M) rfl dX12_copies_9 ?_
        refine lv_iload_n hx hb dX12_copies_12 rfl (lv_at hl 1 rfl) ?_
        refine lv_aload_n hx hb dX12_copies_13 rfl (lv_at hl 0 rfl) ?_
        refine gf_X12_31 hx hb hC hw 1 (gM_1 τ ad M) rfl dX12_copies_14 ?_
        refine lv_iload_n hx hb dX12_copies_17 rfl (lv_at hl 1 rfl) ?_
        obtain ⟨c3, hv⟩ := hv
        obtain ⟨c4, hv⟩ := hv
        refine r_iald hx hb hC hw 5 (gI_M aM_5 τ ad M) c3 c4 (by decide) dX12_copies_18 ?_
        refine r_top (fun x5 e5 => ?_)
        have g5 : iR x5 := by rw [e5]; exact hM.get aM_5.pos _
        have hv := hv x5 e5 g5
        obtain ⟨M6, e6⟩ : ∃ M6 : Mem, M6 = up2 M 6 v1 x5 := ⟨_, rfl⟩
        have hv := hv M6 e6
        refine r_iast (ws' := (WM τ ad M6)) hx hb hC hw 6 (gI_M aM_6 τ ad M) c3 c4 (by decide) (by rw [e6]; exact sI_M aM_6 τ ad M _ _) dX12_copies_19 (fun H locs hw => ?_)
        have hM : MR M6 := by rw [e6]; exact hM.put aM_6.pos g5
        refine r_iinc (v := (v1 + 1)) (lv' := [(1, .int (iI (v1 + 1))), (0, .ref (ad 1))]) hx hb dX12_copies_20 hl (k := 1) rfl rfl (by decide) rfl (fun ls hl => ?_)
        refine lv_goto (tgt := 2) hx hb dX12_copies_23 (by decide) ?_
        exact ih (v1 + 1) M6 _ _ _ hM hv hw (lv_sub hl [1, 0] rfl)
  refine r_iconst hx hb dX12_copies_0 ?_
  refine lv_istore_n (lv' := [(1, .int (iI 0)), (0, .ref (ad 1))]) hx hb dX12_copies_1 rfl hl (by decide) rfl (fun ls hl => ?_)
  obtain ⟨n7, hv⟩ := hv
  refine L2  n7 0 M _ _ _ hM hv hw (lv_sub hl [1, 0] rfl)
set_option maxHeartbeats 4000000 in
set_option maxRecDepth 100000 in
theorem mX12_ahead (l : Launch) (D : va_G) (τ : Nat → ClassId) (ad : Nat → Nat) (sA sV : Nat → Nat) (sz : Nat) (p1 : Int) (hp1 : iR p1) (M : Mem) (hM : MR M) (Q : Int → Mem → Prop) (hv : qX12_ahead p1 M Q) : Met l yX12_ahead (lw_w yX12_ahead cX12_ahead 3 (some .int)) (rmk 8 0 0) (kPc D τ sA sV (WM τ ad M) sz [.ref (ad 1), .int (iI p1)]) (gQi D (EQi (WM τ ad) MR Q) (va_A (WM τ ad M) sz)) 0 0 (va_A (WM τ ad M) sz) := by
  refine k_met (ret := (some .int)) (Qc := gQi D (EQi (WM τ ad) MR Q)) (by decide +kernel) (Nat.le_of_ble_eq_true rfl) ?_
  intro p e s m args below meth c A ls hx hb hml hr hlk hnm hC hLS hA hw hl
  have hC : cx D τ s m args RX12 := hC
  have hl : lv_has ls 3 [(0, .ref (ad 1)), (1, .int (iI p1))] := hl
  unfold qX12_ahead at hv
  have L39 : ∀ (n : Nat) (v2 : Int) (M : Mem) (H : Heap) (locs : List Loc) (ls : Array Slot), MR M → qX12_ahead_L39 p1  Q n v2 M → wS D A s.heap (WM τ ad M) H locs → lv_has ls 3 [(0, .ref (ad 1)), (2, .int (iI v2))] → W p l e (rmk 8 0 0) s m args below meth c H locs 0 0 (MQ below (gQi D (EQi (WM τ ad) MR Q) A) args s 0 0 A) (F0 m 39 ls []) := by
    intro n
    induction n with
    | zero => intro v2 M H locs ls hM hv; rw [qX12_ahead_L39] at hv; exact hv.elim
    | succ n ih =>
      intro v2 M H locs ls hM hv hw hl
      rw [qX12_ahead_L39] at hv
      refine lv_iload_n hx hb dX12_ahead_39 rfl (lv_at hl 1 rfl) ?_
      refine lv_aload_n hx hb dX12_ahead_40 rfl (lv_at hl 0 rfl) ?_
      refine gf_X12_122 hx hb hC hw 1 (gM_1 τ ad M) rfl dX12_ahead_41 ?_
      refine r_top (fun x7 e7 => ?_)
      have g7 : iR x7 := by rw [e7]; exact hM.get (by decide) _
      have hv := hv x7 e7 g7
      obtain ⟨c8, hv⟩ := hv
      refine r_icmp_ge (tgt := 64) hx hb dX12_ahead_44 (by decide) c8 g7 (fun b9 => ?_) (fun b9 => ?_)
      · have hv := hv.1 b9
        refine lv_aload_n hx hb dX12_ahead_64 rfl (lv_at hl 0 rfl) ?_
        refine gf_X12_34 hx hb hC hw 1 (gM_1 τ ad M) rfl dX12_ahead_65 ?_
        refine r_bipush hx hb dX12_ahead_68 (by decide +kernel) ?_
        refine r_iald hx hb hC hw 6 (gI_M aM_6 τ ad M) (by decide) (by decide) (by decide) dX12_ahead_70 ?_
        refine r_top (fun x10 e10 => ?_)
        have g10 : iR x10 := by rw [e10]; exact hM.get aM_6.pos _
        have hv := hv x10 e10 g10
        exact k_iret (wq_M τ ad) hx hb hr hlk hw hM g10 hv dX12_ahead_71
      · have hv := hv.2 b9
        refine lv_aload_n hx hb dX12_ahead_47 rfl (lv_at hl 0 rfl) ?_
        refine lv_aload_n hx hb dX12_ahead_48 rfl (lv_at hl 0 rfl) ?_
        refine gf_X12_34 hx hb hC hw 1 (gM_1 τ ad M) rfl dX12_ahead_49 ?_
        refine lv_iload_n hx hb dX12_ahead_52 rfl (lv_at hl 1 rfl) ?_
        obtain ⟨c11, hv⟩ := hv
        obtain ⟨c12, hv⟩ := hv
        refine r_iald hx hb hC hw 6 (gI_M aM_6 τ ad M) c11 c12 (by decide) dX12_ahead_53 ?_
        refine r_top (fun x13 e13 => ?_)
        have g13 : iR x13 := by rw [e13]; exact hM.get aM_6.pos _
        have hv := hv x13 e13 g13
        refine r_i2l hx hb dX12_ahead_54 g13 ?_
        refine k_cVv (wq_M τ ad) hx hb hml hC hLS hA hw hl.1 (mX12_enters l D τ ad sA sV _ x13 (iR_lR g13) M hM _ hv) kX12_enters ml_X12_358 rfl (gM_1 τ ad M) rfl rfl (Nat.le_of_ble_eq_true rfl) (rm_ok (by decide) (by decide)) ⟨Nat.zero_le _, Nat.zero_le _⟩ dX12_ahead_55 (fun M14 H locs hM hv hw => ?_)
        refine r_iinc (v := (v2 + 1)) (lv' := [(2, .int (iI (v2 + 1))), (0, .ref (ad 1))]) hx hb dX12_ahead_58 hl (k := 1) rfl rfl (by decide) rfl (fun ls hl => ?_)
        refine lv_goto (tgt := 39) hx hb dX12_ahead_61 (by decide) ?_
        exact ih (v2 + 1) M14 _ _ _ hM hv hw (lv_sub hl [1, 0] rfl)
  refine lv_aload_n hx hb dX12_ahead_0 rfl (lv_at hl 0 rfl) ?_
  refine r_iconst hx hb dX12_ahead_1 ?_
  obtain ⟨M1, e1⟩ : ∃ M1 : Mem, M1 = up2 M 1 0 0 := ⟨_, rfl⟩
  have hv := hv M1 e1
  refine pf_X12_112 (ws' := (WM τ ad M1)) hx hb hC hw 1 (gM_1 τ ad M) (Nat.le_of_ble_eq_true rfl) (by rw [e1]; exact sM_1_0 τ ad M _) dX12_ahead_2 (fun H locs hw => ?_)
  have hM : MR M1 := by rw [e1]; exact hM.put (by decide) (by decide)
  refine lv_iload_n hx hb dX12_ahead_5 rfl (lv_at hl 1 rfl) ?_
  refine r_i2l hx hb dX12_ahead_6 hp1 ?_
  refine r_lconst (z := 0) hx hb dX12_ahead_7 (by decide +kernel) ?_
  refine r_ldc2 (z := 99) hx hb hC ct_X12_388 (by decide +kernel) dX12_ahead_8 ?_
  refine k_cSz (wq_M τ ad) hx hb hml hC hLS hA hw hl.1 (mX12_in l D τ ad sA sV _ p1 0 99 (iR_lR hp1) (by decide) (by decide) M1 hM _ hv) kX12_in ml_X12_125 rfl rfl (Nat.le_of_ble_eq_true rfl) (rm_ok (by decide) (by decide)) ⟨Nat.zero_le _, Nat.zero_le _⟩ dX12_ahead_11 (fun x2 M2 H locs g2 z2 hM hv hw => ?_)
  have hv := hv g2 z2
  refine r_if_ne (tgt := 19) hx hb dX12_ahead_14 (by decide) g2  (fun b3 => ?_) (fun b3 => ?_)
  · have hv := hv.1 b3
    refine lv_aload_n hx hb dX12_ahead_19 rfl (lv_at hl 0 rfl) ?_
    refine k_cVv (wq_M τ ad) hx hb hml hC hLS hA hw hl.1 (mX12_copies l D τ ad sA sV _   M2 hM _ hv) kX12_copies ml_X12_390 rfl (gM_1 τ ad M2) rfl rfl (Nat.le_of_ble_eq_true rfl) (rm_ok (by decide) (by decide)) ⟨Nat.zero_le _, Nat.zero_le _⟩ dX12_ahead_20 (fun M4 H locs hM hv hw => ?_)
    refine lv_aload_n hx hb dX12_ahead_23 rfl (lv_at hl 0 rfl) ?_
    refine lv_aload_n hx hb dX12_ahead_24 rfl (lv_at hl 0 rfl) ?_
    refine gf_X12_34 hx hb hC hw 1 (gM_1 τ ad M4) rfl dX12_ahead_25 ?_
    refine lv_iload_n hx hb dX12_ahead_28 rfl (lv_at hl 1 rfl) ?_
    refine k_cVv (wq_M τ ad) hx hb hml hC hLS hA hw hl.1 (mX12_goesOn l D τ ad sA sV _ 6 p1 aM_6 hp1 M4 hM _ hv) kX12_goesOn ml_X12_355 rfl (gM_1 τ ad M4) rfl rfl (Nat.le_of_ble_eq_true rfl) (rm_ok (by decide) (by decide)) ⟨Nat.zero_le _, Nat.zero_le _⟩ dX12_ahead_29 (fun M5 H locs hM hv hw => ?_)
    refine lv_aload_n hx hb dX12_ahead_32 rfl (lv_at hl 0 rfl) ?_
    refine r_iconst hx hb dX12_ahead_33 ?_
    obtain ⟨M6, e6⟩ : ∃ M6 : Mem, M6 = up2 M5 1 1 0 := ⟨_, rfl⟩
    have hv := hv M6 e6
    refine pf_X12_119 (ws' := (WM τ ad M6)) hx hb hC hw 1 (gM_1 τ ad M5) (Nat.le_of_ble_eq_true rfl) (by rw [e6]; exact sM_1_1 τ ad M5 _) dX12_ahead_34 (fun H locs hw => ?_)
    have hM : MR M6 := by rw [e6]; exact hM.put (by decide) (by decide)
    refine r_iconst hx hb dX12_ahead_37 ?_
    refine lv_istore_n (lv' := [(2, .int (iI 0)), (0, .ref (ad 1)), (1, .int (iI p1))]) hx hb dX12_ahead_38 rfl hl (by decide) rfl (fun ls hl => ?_)
    obtain ⟨n15, hv⟩ := hv
    refine L39  n15 0 M6 _ _ _ hM hv hw (lv_sub hl [1, 0] rfl)
  · have hv := hv.2 b3
    refine r_iconst hx hb dX12_ahead_17 ?_
    exact k_iret (wq_M τ ad) hx hb hr hlk hw hM (by decide) hv dX12_ahead_18
set_option maxHeartbeats 4000000 in
set_option maxRecDepth 100000 in
theorem mX12_arrives (l : Launch) (D : va_G) (τ : Nat → ClassId) (ad : Nat → Nat) (sA sV : Nat → Nat) (sz : Nat) (p1 : Int) (hp1 : iR p1) (M : Mem) (hM : MR M) (Q : Int → Mem → Prop) (hv : qX12_arrives p1 M Q) : Met l yX12_arrives (lw_w yX12_arrives cX12_arrives 3 (some .int)) (rmk 7 0 0) (kPc D τ sA sV (WM τ ad M) sz [.ref (ad 1), .int (iI p1)]) (gQi D (EQi (WM τ ad) MR Q) (va_A (WM τ ad M) sz)) 0 0 (va_A (WM τ ad M) sz) := by
  refine k_met (ret := (some .int)) (Qc := gQi D (EQi (WM τ ad) MR Q)) (by decide +kernel) (Nat.le_of_ble_eq_true rfl) ?_
  intro p e s m args below meth c A ls hx hb hml hr hlk hnm hC hLS hA hw hl
  have hC : cx D τ s m args RX12 := hC
  have hl : lv_has ls 3 [(0, .ref (ad 1)), (1, .int (iI p1))] := hl
  unfold qX12_arrives at hv
  have L21 : ∀ (X39 : Int → Mem → Prop), (∀ (v2 : Int) (M : Mem) (H : Heap) (locs : List Loc) (ls : Array Slot), MR M → X39 v2 M → wS D A s.heap (WM τ ad M) H locs → lv_has ls 3 [(0, .ref (ad 1)), (1, .int (iI p1)), (2, .int (iI v2))] → W p l e (rmk 7 0 0) s m args below meth c H locs 0 0 (MQ below (gQi D (EQi (WM τ ad) MR Q) A) args s 0 0 A) (F0 m 39 ls [])) → ∀ (n : Nat) (v2 : Int) (M : Mem) (H : Heap) (locs : List Loc) (ls : Array Slot), MR M → qX12_arrives_L21 p1 X39 Q n v2 M → wS D A s.heap (WM τ ad M) H locs → lv_has ls 3 [(0, .ref (ad 1)), (1, .int (iI p1)), (2, .int (iI v2))] → W p l e (rmk 7 0 0) s m args below meth c H locs 0 0 (MQ below (gQi D (EQi (WM τ ad) MR Q) A) args s 0 0 A) (F0 m 21 ls []) := by
    intro X39 hX39 n
    induction n with
    | zero => intro v2 M H locs ls hM hv; rw [qX12_arrives_L21] at hv; exact hv.elim
    | succ n ih =>
      intro v2 M H locs ls hM hv hw hl
      rw [qX12_arrives_L21] at hv
      refine lv_iload_n hx hb dX12_arrives_21 rfl (lv_at hl 2 rfl) ?_
      refine r_sipush hx hb dX12_arrives_22 (by decide +kernel) ?_
      obtain ⟨c5, hv⟩ := hv
      refine r_icmp_gt (tgt := 74) hx hb dX12_arrives_25 (by decide) c5 (by decide) (fun b6 => ?_) (fun b6 => ?_)
      · have hv := hv.1 b6
        refine r_bipush hx hb dX12_arrives_74 (by decide +kernel) ?_
        exact k_iret (wq_M τ ad) hx hb hr hlk hw hM (by decide) hv dX12_arrives_76
      · have hv := hv.2 b6
        refine lv_aload_n hx hb dX12_arrives_28 rfl (lv_at hl 0 rfl) ?_
        refine gf_X12_34 hx hb hC hw 1 (gM_1 τ ad M) rfl dX12_arrives_29 ?_
        refine lv_iload_n hx hb dX12_arrives_32 rfl (lv_at hl 1 rfl) ?_
        refine k_cSz (wq_M τ ad) hx hb hml hC hLS hA hw hl.1 (mX12_isOn l D τ ad sA sV _ 6 p1 aM_6 hp1 M hM _ hv) kX12_isOn ml_X12_266 rfl rfl (Nat.le_of_ble_eq_true rfl) (rm_ok (by decide) (by decide)) ⟨Nat.zero_le _, Nat.zero_le _⟩ dX12_arrives_33 (fun x7 M7 H locs g7 z7 hM hv hw => ?_)
        have hv := hv g7 z7
        refine r_if_ne (tgt := 60) hx hb dX12_arrives_36 (by decide) g7  (fun b8 => ?_) (fun b8 => ?_)
        · have hv := hv.1 b8
          refine lv_aload_n hx hb dX12_arrives_60 rfl (lv_at hl 0 rfl) ?_
          refine lv_aload_n hx hb dX12_arrives_61 rfl (lv_at hl 0 rfl) ?_
          refine gf_X12_34 hx hb hC hw 1 (gM_1 τ ad M7) rfl dX12_arrives_62 ?_
          refine k_cVv (wq_M τ ad) hx hb hml hC hLS hA hw hl.1 (mX12_stepGoes l D τ ad sA sV _ 6 aM_6 M7 hM _ hv) kX12_stepGoes ml_X12_343 rfl (gM_1 τ ad M7) rfl rfl (Nat.le_of_ble_eq_true rfl) (rm_ok (by decide) (by decide)) ⟨Nat.zero_le _, Nat.zero_le _⟩ dX12_arrives_65 (fun M9 H locs hM hv hw => ?_)
          refine r_iinc (v := (v2 + 1)) (lv' := [(2, .int (iI (v2 + 1))), (0, .ref (ad 1)), (1, .int (iI p1))]) hx hb dX12_arrives_68 hl (k := 2) rfl rfl (by decide) rfl (fun ls hl => ?_)
          refine lv_goto (tgt := 21) hx hb dX12_arrives_71 (by decide) ?_
          exact ih (v2 + 1) M9 _ _ _ hM hv hw (lv_sub hl [1, 2, 0] rfl)
        · have hv := hv.2 b8
          exact hX39 v2 M7 _ _ _ hM hv hw (lv_sub hl [0, 1, 2] rfl)
  refine lv_aload_n hx hb dX12_arrives_0 rfl (lv_at hl 0 rfl) ?_
  refine r_iconst hx hb dX12_arrives_1 ?_
  obtain ⟨M1, e1⟩ : ∃ M1 : Mem, M1 = up2 M 1 0 0 := ⟨_, rfl⟩
  have hv := hv M1 e1
  refine pf_X12_112 (ws' := (WM τ ad M1)) hx hb hC hw 1 (gM_1 τ ad M) (Nat.le_of_ble_eq_true rfl) (by rw [e1]; exact sM_1_0 τ ad M _) dX12_arrives_2 (fun H locs hw => ?_)
  have hM : MR M1 := by rw [e1]; exact hM.put (by decide) (by decide)
  refine lv_aload_n hx hb dX12_arrives_5 rfl (lv_at hl 0 rfl) ?_
  refine lv_iload_n hx hb dX12_arrives_6 rfl (lv_at hl 1 rfl) ?_
  refine k_cVz (wq_M τ ad) hx hb hml hC hLS hA hw hl.1 (mX12_isHearse l D τ ad sA sV _ p1 hp1 M1 hM _ hv) kX12_isHearse ml_X12_294 rfl (gM_1 τ ad M1) rfl rfl (Nat.le_of_ble_eq_true rfl) (rm_ok (by decide) (by decide)) ⟨Nat.zero_le _, Nat.zero_le _⟩ dX12_arrives_7 (fun x2 M2 H locs g2 z2 hM hv hw => ?_)
  have hv := hv g2 z2
  refine r_if_ne (tgt := 15) hx hb dX12_arrives_10 (by decide) g2  (fun b3 => ?_) (fun b3 => ?_)
  · have hv := hv.1 b3
    refine lv_aload_n hx hb dX12_arrives_15 rfl (lv_at hl 0 rfl) ?_
    refine k_cVv (wq_M τ ad) hx hb hml hC hLS hA hw hl.1 (mX12_copies l D τ ad sA sV _   M2 hM _ hv) kX12_copies ml_X12_390 rfl (gM_1 τ ad M2) rfl rfl (Nat.le_of_ble_eq_true rfl) (rm_ok (by decide) (by decide)) ⟨Nat.zero_le _, Nat.zero_le _⟩ dX12_arrives_16 (fun M4 H locs hM hv hw => ?_)
    refine r_iconst hx hb dX12_arrives_19 ?_
    refine lv_istore_n (lv' := [(2, .int (iI 0)), (0, .ref (ad 1)), (1, .int (iI p1))]) hx hb dX12_arrives_20 rfl hl (by decide) rfl (fun ls hl => ?_)
    obtain ⟨n10, hv⟩ := hv
    refine L21 _ ?_ n10 0 M4 _ _ _ hM hv hw (lv_sub hl [1, 2, 0] rfl)
    · intro v2 M H locs ls hM hv hw hl
      refine lv_aload_n hx hb dX12_arrives_39 rfl (lv_at hl 0 rfl) ?_
      refine r_iconst hx hb dX12_arrives_40 ?_
      obtain ⟨M11, e11⟩ : ∃ M11 : Mem, M11 = up2 M 1 1 0 := ⟨_, rfl⟩
      have hv := hv M11 e11
      refine pf_X12_119 (ws' := (WM τ ad M11)) hx hb hC hw 1 (gM_1 τ ad M) (Nat.le_of_ble_eq_true rfl) (by rw [e11]; exact sM_1_1 τ ad M _) dX12_arrives_41 (fun H locs hw => ?_)
      have hM : MR M11 := by rw [e11]; exact hM.put (by decide) (by decide)
      refine lv_aload_n hx hb dX12_arrives_44 rfl (lv_at hl 0 rfl) ?_
      refine lv_aload_n hx hb dX12_arrives_45 rfl (lv_at hl 0 rfl) ?_
      refine gf_X12_34 hx hb hC hw 1 (gM_1 τ ad M11) rfl dX12_arrives_46 ?_
      refine r_bipush hx hb dX12_arrives_49 (by decide +kernel) ?_
      refine lv_iload_n hx hb dX12_arrives_51 rfl (lv_at hl 1 rfl) ?_
      refine r_iadd (z := (6 + p1)) hx hb dX12_arrives_52 rfl ?_
      obtain ⟨c12, hv⟩ := hv
      obtain ⟨c13, hv⟩ := hv
      refine r_iald hx hb hC hw 6 (gI_M aM_6 τ ad M11) c12 c13 (by decide) dX12_arrives_53 ?_
      refine r_top (fun x14 e14 => ?_)
      have g14 : iR x14 := by rw [e14]; exact hM.get aM_6.pos _
      have hv := hv x14 e14 g14
      refine r_i2l hx hb dX12_arrives_54 g14 ?_
      refine k_cVv (wq_M τ ad) hx hb hml hC hLS hA hw hl.1 (mX12_enters l D τ ad sA sV _ x14 (iR_lR g14) M11 hM _ hv) kX12_enters ml_X12_358 rfl (gM_1 τ ad M11) rfl rfl (Nat.le_of_ble_eq_true rfl) (rm_ok (by decide) (by decide)) ⟨Nat.zero_le _, Nat.zero_le _⟩ dX12_arrives_55 (fun M15 H locs hM hv hw => ?_)
      refine lv_iload_n hx hb dX12_arrives_58 rfl (lv_at hl 2 rfl) ?_
      obtain ⟨c16, hv⟩ := hv
      exact k_iret (wq_M τ ad) hx hb hr hlk hw hM c16 hv dX12_arrives_59
  · have hv := hv.2 b3
    refine r_iconst hx hb dX12_arrives_13 ?_
    exact k_iret (wq_M τ ad) hx hb hr hlk hw hM (by decide) hv dX12_arrives_14
set_option maxHeartbeats 4000000 in
set_option maxRecDepth 100000 in
theorem mX12_jam (l : Launch) (D : va_G) (τ : Nat → ClassId) (ad : Nat → Nat) (sA sV : Nat → Nat) (sz : Nat) (p1 : Int) (hp1 : iR p1) (M : Mem) (hM : MR M) (Q : Int → Mem → Prop) (hv : qX12_jam p1 M Q) : Met l yX12_jam (lw_w yX12_jam cX12_jam 4 (some .int)) (rmk 8 0 0) (kPc D τ sA sV (WM τ ad M) sz [.ref (ad 1), .int (iI p1)]) (gQi D (EQi (WM τ ad) MR Q) (va_A (WM τ ad M) sz)) 0 0 (va_A (WM τ ad M) sz) := by
  refine k_met (ret := (some .int)) (Qc := gQi D (EQi (WM τ ad) MR Q)) (by decide +kernel) (Nat.le_of_ble_eq_true rfl) ?_
  intro p e s m args below meth c A ls hx hb hml hr hlk hnm hC hLS hA hw hl
  have hC : cx D τ s m args RX12 := hC
  have hl : lv_has ls 4 [(0, .ref (ad 1)), (1, .int (iI p1))] := hl
  unfold qX12_jam at hv
  have L36 : ∀ (X71 : Int → Mem → Prop), (∀ (v2 : Int) (M : Mem) (H : Heap) (locs : List Loc) (ls : Array Slot), MR M → X71 v2 M → wS D A s.heap (WM τ ad M) H locs → lv_has ls 4 [(0, .ref (ad 1)), (2, .int (iI v2))] → W p l e (rmk 8 0 0) s m args below meth c H locs 0 0 (MQ below (gQi D (EQi (WM τ ad) MR Q) A) args s 0 0 A) (F0 m 71 ls [])) → ∀ (n : Nat) (v2 : Int) (v3 : Int) (M : Mem) (H : Heap) (locs : List Loc) (ls : Array Slot), MR M → qX12_jam_L36 p1 X71 Q n v2 v3 M → wS D A s.heap (WM τ ad M) H locs → lv_has ls 4 [(0, .ref (ad 1)), (2, .int (iI v2)), (3, .int (iI v3))] → W p l e (rmk 8 0 0) s m args below meth c H locs 0 0 (MQ below (gQi D (EQi (WM τ ad) MR Q) A) args s 0 0 A) (F0 m 36 ls []) := by
    intro X71 hX71 n
    induction n with
    | zero => intro v2 v3 M H locs ls hM hv; rw [qX12_jam_L36] at hv; exact hv.elim
    | succ n ih =>
      intro v2 v3 M H locs ls hM hv hw hl
      rw [qX12_jam_L36] at hv
      refine lv_iload_n hx hb dX12_jam_36 rfl (lv_at hl 2 rfl) ?_
      refine lv_aload_n hx hb dX12_jam_37 rfl (lv_at hl 0 rfl) ?_
      refine gf_X12_13 hx hb hC hw 1 (gM_1 τ ad M) rfl dX12_jam_38 ?_
      refine r_top (fun x6 e6 => ?_)
      have g6 : iR x6 := by rw [e6]; exact hM.get (by decide) _
      have hv := hv x6 e6 g6
      obtain ⟨c7, hv⟩ := hv
      refine r_icmp_ge (tgt := 71) hx hb dX12_jam_41 (by decide) c7 g6 (fun b8 => ?_) (fun b8 => ?_)
      · have hv := hv.1 b8
        exact hX71 v2 M _ _ _ hM hv hw (lv_sub hl [0, 1] rfl)
      · have hv := hv.2 b8
        refine lv_aload_n hx hb dX12_jam_44 rfl (lv_at hl 0 rfl) ?_
        refine gf_X12_64 hx hb hC hw 1 (gM_1 τ ad M) rfl dX12_jam_45 ?_
        refine lv_iload_n hx hb dX12_jam_48 rfl (lv_at hl 2 rfl) ?_
        obtain ⟨c9, hv⟩ := hv
        obtain ⟨c10, hv⟩ := hv
        refine r_iald hx hb hC hw 16 (gI_M aM_16 τ ad M) c9 c10 (by decide) dX12_jam_49 ?_
        refine r_top (fun x11 e11 => ?_)
        have g11 : iR x11 := by rw [e11]; exact hM.get aM_16.pos _
        have hv := hv x11 e11 g11
        refine lv_aload_n hx hb dX12_jam_50 rfl (lv_at hl 0 rfl) ?_
        refine gf_X12_64 hx hb hC hw 1 (gM_1 τ ad M) rfl dX12_jam_51 ?_
        refine lv_iload_n hx hb dX12_jam_54 rfl (lv_at hl 1 rfl) ?_
        obtain ⟨c12, hv⟩ := hv
        obtain ⟨c13, hv⟩ := hv
        refine r_iald hx hb hC hw 16 (gI_M aM_16 τ ad M) c12 c13 (by decide) dX12_jam_55 ?_
        refine r_top (fun x14 e14 => ?_)
        have g14 : iR x14 := by rw [e14]; exact hM.get aM_16.pos _
        have hv := hv x14 e14 g14
        refine r_icmp_le (tgt := 63) hx hb dX12_jam_56 (by decide) g11 g14 (fun b15 => ?_) (fun b15 => ?_)
        · have hv := hv.1 b15
          refine lv_iload_n hx hb dX12_jam_63 rfl (lv_at hl 1 rfl) ?_
          refine lv_istore_n (lv' := [(2, .int (iI v2)), (0, .ref (ad 1)), (3, .int (iI v3))]) hx hb dX12_jam_64 rfl hl (by decide) rfl (fun ls hl => ?_)
          refine r_iinc (v := (v3 + 1)) (lv' := [(3, .int (iI (v3 + 1))), (2, .int (iI v2)), (0, .ref (ad 1))]) hx hb dX12_jam_65 hl (k := 2) rfl rfl (by decide) rfl (fun ls hl => ?_)
          refine lv_goto (tgt := 36) hx hb dX12_jam_68 (by decide) ?_
          exact ih v2 (v3 + 1) M _ _ _ hM hv hw (lv_sub hl [2, 1, 0] rfl)
        · have hv := hv.2 b15
          refine lv_iload_n hx hb dX12_jam_59 rfl (lv_at hl 2 rfl) ?_
          refine lv_goto (tgt := 64) hx hb dX12_jam_60 (by decide) ?_
          refine lv_istore_n (lv' := [(2, .int (iI v3)), (0, .ref (ad 1)), (3, .int (iI v3))]) hx hb dX12_jam_64 rfl hl (by decide) rfl (fun ls hl => ?_)
          refine r_iinc (v := (v3 + 1)) (lv' := [(3, .int (iI (v3 + 1))), (2, .int (iI v3)), (0, .ref (ad 1))]) hx hb dX12_jam_65 hl (k := 2) rfl rfl (by decide) rfl (fun ls hl => ?_)
          refine lv_goto (tgt := 36) hx hb dX12_jam_68 (by decide) ?_
          exact ih v3 (v3 + 1) M _ _ _ hM hv hw (lv_sub hl [2, 1, 0] rfl)
  refine lv_aload_n hx hb dX12_jam_0 rfl (lv_at hl 0 rfl) ?_
  refine r_iconst hx hb dX12_jam_1 ?_
  obtain ⟨M1, e1⟩ : ∃ M1 : Mem, M1 = up2 M 1 0 0 := ⟨_, rfl⟩
  have hv := hv M1 e1
  refine pf_X12_112 (ws' := (WM τ ad M1)) hx hb hC hw 1 (gM_1 τ ad M) (Nat.le_of_ble_eq_true rfl) (by rw [e1]; exact sM_1_0 τ ad M _) dX12_jam_2 (fun H locs hw => ?_)
  have hM : MR M1 := by rw [e1]; exact hM.put (by decide) (by decide)
  refine lv_iload_n hx hb dX12_jam_5 rfl (lv_at hl 1 rfl) ?_
  refine r_i2l hx hb dX12_jam_6 hp1 ?_
  refine r_lconst (z := 1) hx hb dX12_jam_7 (by decide +kernel) ?_
  refine r_ldc2 (z := 60) hx hb hC ct_X12_350 (by decide +kernel) dX12_jam_8 ?_
  refine k_cSz (wq_M τ ad) hx hb hml hC hLS hA hw hl.1 (mX12_in l D τ ad sA sV _ p1 1 60 (iR_lR hp1) (by decide) (by decide) M1 hM _ hv) kX12_in ml_X12_125 rfl rfl (Nat.le_of_ble_eq_true rfl) (rm_ok (by decide) (by decide)) ⟨Nat.zero_le _, Nat.zero_le _⟩ dX12_jam_11 (fun x2 M2 H locs g2 z2 hM hv hw => ?_)
  have hv := hv g2 z2
  refine r_if_ne (tgt := 19) hx hb dX12_jam_14 (by decide) g2  (fun b3 => ?_) (fun b3 => ?_)
  · have hv := hv.1 b3
    refine lv_aload_n hx hb dX12_jam_19 rfl (lv_at hl 0 rfl) ?_
    refine k_cVv (wq_M τ ad) hx hb hml hC hLS hA hw hl.1 (mX12_copies l D τ ad sA sV _   M2 hM _ hv) kX12_copies ml_X12_390 rfl (gM_1 τ ad M2) rfl rfl (Nat.le_of_ble_eq_true rfl) (rm_ok (by decide) (by decide)) ⟨Nat.zero_le _, Nat.zero_le _⟩ dX12_jam_20 (fun M4 H locs hM hv hw => ?_)
    refine lv_aload_n hx hb dX12_jam_23 rfl (lv_at hl 0 rfl) ?_
    refine lv_aload_n hx hb dX12_jam_24 rfl (lv_at hl 0 rfl) ?_
    refine gf_X12_34 hx hb hC hw 1 (gM_1 τ ad M4) rfl dX12_jam_25 ?_
    refine lv_iload_n hx hb dX12_jam_28 rfl (lv_at hl 1 rfl) ?_
    refine k_cVv (wq_M τ ad) hx hb hml hC hLS hA hw hl.1 (mX12_goesOn l D τ ad sA sV _ 6 p1 aM_6 hp1 M4 hM _ hv) kX12_goesOn ml_X12_355 rfl (gM_1 τ ad M4) rfl rfl (Nat.le_of_ble_eq_true rfl) (rm_ok (by decide) (by decide)) ⟨Nat.zero_le _, Nat.zero_le _⟩ dX12_jam_29 (fun M5 H locs hM hv hw => ?_)
    refine r_iconst hx hb dX12_jam_32 ?_
    refine lv_istore_n (lv' := [(2, .int (iI 0)), (0, .ref (ad 1)), (1, .int (iI p1))]) hx hb dX12_jam_33 rfl hl (by decide) rfl (fun ls hl => ?_)
    refine r_iconst hx hb dX12_jam_34 ?_
    refine lv_istore_n (lv' := [(3, .int (iI 0)), (2, .int (iI 0)), (0, .ref (ad 1)), (1, .int (iI p1))]) hx hb dX12_jam_35 rfl hl (by decide) rfl (fun ls hl => ?_)
    obtain ⟨n16, hv⟩ := hv
    refine L36 _ ?_ n16 0 0 M5 _ _ _ hM hv hw (lv_sub hl [2, 1, 0] rfl)
    · intro v2 M H locs ls hM hv hw hl
      refine lv_aload_n hx hb dX12_jam_71 rfl (lv_at hl 0 rfl) ?_
      refine r_iconst hx hb dX12_jam_72 ?_
      obtain ⟨M17, e17⟩ : ∃ M17 : Mem, M17 = up2 M 1 1 0 := ⟨_, rfl⟩
      have hv := hv M17 e17
      refine pf_X12_119 (ws' := (WM τ ad M17)) hx hb hC hw 1 (gM_1 τ ad M) (Nat.le_of_ble_eq_true rfl) (by rw [e17]; exact sM_1_1 τ ad M _) dX12_jam_73 (fun H locs hw => ?_)
      have hM : MR M17 := by rw [e17]; exact hM.put (by decide) (by decide)
      refine lv_aload_n hx hb dX12_jam_76 rfl (lv_at hl 0 rfl) ?_
      refine lv_aload_n hx hb dX12_jam_77 rfl (lv_at hl 0 rfl) ?_
      refine gf_X12_64 hx hb hC hw 1 (gM_1 τ ad M17) rfl dX12_jam_78 ?_
      refine lv_iload_n hx hb dX12_jam_81 rfl (lv_at hl 1 rfl) ?_
      obtain ⟨c18, hv⟩ := hv
      obtain ⟨c19, hv⟩ := hv
      refine r_iald hx hb hC hw 16 (gI_M aM_16 τ ad M17) c18 c19 (by decide) dX12_jam_82 ?_
      refine r_top (fun x20 e20 => ?_)
      have g20 : iR x20 := by rw [e20]; exact hM.get aM_16.pos _
      have hv := hv x20 e20 g20
      refine r_i2l hx hb dX12_jam_83 g20 ?_
      refine k_cVv (wq_M τ ad) hx hb hml hC hLS hA hw hl.1 (mX12_enters l D τ ad sA sV _ x20 (iR_lR g20) M17 hM _ hv) kX12_enters ml_X12_358 rfl (gM_1 τ ad M17) rfl rfl (Nat.le_of_ble_eq_true rfl) (rm_ok (by decide) (by decide)) ⟨Nat.zero_le _, Nat.zero_le _⟩ dX12_jam_84 (fun M21 H locs hM hv hw => ?_)
      refine lv_aload_n hx hb dX12_jam_87 rfl (lv_at hl 0 rfl) ?_
      refine lv_aload_n hx hb dX12_jam_88 rfl (lv_at hl 0 rfl) ?_
      refine gf_X12_327 hx hb hC hw 1 (gM_1 τ ad M21) rfl dX12_jam_89 ?_
      refine r_top (fun x22 e22 => ?_)
      have g22 : iR x22 := by rw [e22]; exact hM.get (by decide) _
      have hv := hv x22 e22 g22
      refine r_i2l hx hb dX12_jam_92 g22 ?_
      refine k_cVv (wq_M τ ad) hx hb hml hC hLS hA hw hl.1 (mX12_enters l D τ ad sA sV _ x22 (iR_lR g22) M21 hM _ hv) kX12_enters ml_X12_358 rfl (gM_1 τ ad M21) rfl rfl (Nat.le_of_ble_eq_true rfl) (rm_ok (by decide) (by decide)) ⟨Nat.zero_le _, Nat.zero_le _⟩ dX12_jam_93 (fun M23 H locs hM hv hw => ?_)
      refine lv_iload_n hx hb dX12_jam_96 rfl (lv_at hl 1 rfl) ?_
      obtain ⟨c24, hv⟩ := hv
      exact k_iret (wq_M τ ad) hx hb hr hlk hw hM c24 hv dX12_jam_97
  · have hv := hv.2 b3
    refine r_iconst hx hb dX12_jam_17 ?_
    exact k_iret (wq_M τ ad) hx hb hr hlk hw hM (by decide) hv dX12_jam_18
set_option maxHeartbeats 4000000 in
set_option maxRecDepth 100000 in
theorem mX12_isAhead (l : Launch) (D : va_G) (τ : Nat → ClassId) (ad : Nat → Nat) (sA sV : Nat → Nat) (sz : Nat) (k0 : Nat) (p1 : Int) (p2 : Int) (hk0 : MI 38 k0) (hp1 : iR p1) (hp2 : iR p2) (M : Mem) (hM : MR M) (Q : Int → Mem → Prop) (hv : qX12_isAhead k0 p1 p2 M Q) : Met l yX12_isAhead (lw_w yX12_isAhead cX12_isAhead 3 (some .boolean)) (rmk 2 0 0) (kPc D τ sA sV (WM τ ad M) sz [.ref (ad k0), .int (iI p1), .int (iI p2)]) (gQi D (EQz (WM τ ad) MR Q) (va_A (WM τ ad M) sz)) 0 0 (va_A (WM τ ad M) sz) := by
  refine k_met (ret := (some .boolean)) (Qc := gQi D (EQz (WM τ ad) MR Q)) (by decide +kernel) (Nat.le_of_ble_eq_true rfl) ?_
  intro p e s m args below meth c A ls hx hb hml hr hlk hnm hC hLS hA hw hl
  have hC : cx D τ s m args RX12 := hC
  have hl : lv_has ls 3 [(0, .ref (ad k0)), (1, .int (iI p1)), (2, .int (iI p2))] := hl
  unfold qX12_isAhead at hv
  refine lv_aload_n hx hb dX12_isAhead_0 rfl (lv_at hl 0 rfl) ?_
  refine lv_iload_n hx hb dX12_isAhead_1 rfl (lv_at hl 1 rfl) ?_
  refine k_cSz (wq_M τ ad) hx hb hml hC hLS hA hw hl.1 (mX12_isOn l D τ ad sA sV _ k0 p1 hk0 hp1 M hM _ hv) kX12_isOn ml_X12_266 rfl rfl (Nat.le_of_ble_eq_true rfl) (rm_ok (by decide) (by decide)) ⟨Nat.zero_le _, Nat.zero_le _⟩ dX12_isAhead_2 (fun x1 M1 H locs g1 z1 hM hv hw => ?_)
  have hv := hv g1 z1
  refine r_if_eq (tgt := 31) hx hb dX12_isAhead_5 (by decide) g1  (fun b2 => ?_) (fun b2 => ?_)
  · have hv := hv.1 b2
    refine lv_aload_n hx hb dX12_isAhead_31 rfl (lv_at hl 0 rfl) ?_
    refine lv_iload_n hx hb dX12_isAhead_32 rfl (lv_at hl 2 rfl) ?_
    refine k_cSz (wq_M τ ad) hx hb hml hC hLS hA hw hl.1 (mX12_isOn l D τ ad sA sV _ k0 p2 hk0 hp2 M1 hM _ hv) kX12_isOn ml_X12_266 rfl rfl (Nat.le_of_ble_eq_true rfl) (rm_ok (by decide) (by decide)) ⟨Nat.zero_le _, Nat.zero_le _⟩ dX12_isAhead_33 (fun x3 M3 H locs g3 z3 hM hv hw => ?_)
    have hv := hv g3 z3
    refine r_if_ne (tgt := 54) hx hb dX12_isAhead_36 (by decide) g3  (fun b4 => ?_) (fun b4 => ?_)
    · have hv := hv.1 b4
      refine r_iconst hx hb dX12_isAhead_54 ?_
      refine lv_goto (tgt := 59) hx hb dX12_isAhead_55 (by decide) ?_
      exact k_zret (wq_M τ ad) hx hb hr hlk hw hM (by decide) (by decide) hv dX12_isAhead_59
    · have hv := hv.2 b4
      refine lv_aload_n hx hb dX12_isAhead_39 rfl (lv_at hl 0 rfl) ?_
      refine r_bipush hx hb dX12_isAhead_40 (by decide +kernel) ?_
      refine lv_iload_n hx hb dX12_isAhead_42 rfl (lv_at hl 1 rfl) ?_
      refine r_iadd (z := (6 + p1)) hx hb dX12_isAhead_43 rfl ?_
      obtain ⟨c5, hv⟩ := hv
      obtain ⟨c6, hv⟩ := hv
      refine r_iald hx hb hC hw k0 (gI_M hk0 τ ad M3) c5 c6 (by decide) dX12_isAhead_44 ?_
      refine r_top (fun x7 e7 => ?_)
      have g7 : iR x7 := by rw [e7]; exact hM.get hk0.pos _
      have hv := hv x7 e7 g7
      refine lv_aload_n hx hb dX12_isAhead_45 rfl (lv_at hl 0 rfl) ?_
      refine r_bipush hx hb dX12_isAhead_46 (by decide +kernel) ?_
      refine lv_iload_n hx hb dX12_isAhead_48 rfl (lv_at hl 2 rfl) ?_
      refine r_iadd (z := (6 + p2)) hx hb dX12_isAhead_49 rfl ?_
      obtain ⟨c8, hv⟩ := hv
      obtain ⟨c9, hv⟩ := hv
      refine r_iald hx hb hC hw k0 (gI_M hk0 τ ad M3) c8 c9 (by decide) dX12_isAhead_50 ?_
      refine r_top (fun x10 e10 => ?_)
      have g10 : iR x10 := by rw [e10]; exact hM.get hk0.pos _
      have hv := hv x10 e10 g10
      refine r_icmp_ge (tgt := 58) hx hb dX12_isAhead_51 (by decide) g7 g10 (fun b11 => ?_) (fun b11 => ?_)
      · have hv := hv.1 b11
        refine r_iconst hx hb dX12_isAhead_58 ?_
        exact k_zret (wq_M τ ad) hx hb hr hlk hw hM (by decide) (by decide) hv dX12_isAhead_59
      · have hv := hv.2 b11
        refine r_iconst hx hb dX12_isAhead_54 ?_
        refine lv_goto (tgt := 59) hx hb dX12_isAhead_55 (by decide) ?_
        exact k_zret (wq_M τ ad) hx hb hr hlk hw hM (by decide) (by decide) hv dX12_isAhead_59
  · have hv := hv.2 b2
    refine lv_aload_n hx hb dX12_isAhead_8 rfl (lv_at hl 0 rfl) ?_
    refine lv_iload_n hx hb dX12_isAhead_9 rfl (lv_at hl 2 rfl) ?_
    refine k_cSz (wq_M τ ad) hx hb hml hC hLS hA hw hl.1 (mX12_isOn l D τ ad sA sV _ k0 p2 hk0 hp2 M1 hM _ hv) kX12_isOn ml_X12_266 rfl rfl (Nat.le_of_ble_eq_true rfl) (rm_ok (by decide) (by decide)) ⟨Nat.zero_le _, Nat.zero_le _⟩ dX12_isAhead_10 (fun x12 M12 H locs g12 z12 hM hv hw => ?_)
    have hv := hv g12 z12
    refine r_if_eq (tgt := 29) hx hb dX12_isAhead_13 (by decide) g12  (fun b13 => ?_) (fun b13 => ?_)
    · have hv := hv.1 b13
      refine r_iconst hx hb dX12_isAhead_29 ?_
      exact k_zret (wq_M τ ad) hx hb hr hlk hw hM (by decide) (by decide) hv dX12_isAhead_30
    · have hv := hv.2 b13
      refine lv_aload_n hx hb dX12_isAhead_16 rfl (lv_at hl 0 rfl) ?_
      refine lv_iload_n hx hb dX12_isAhead_17 rfl (lv_at hl 1 rfl) ?_
      obtain ⟨c14, hv⟩ := hv
      obtain ⟨c15, hv⟩ := hv
      refine r_iald hx hb hC hw k0 (gI_M hk0 τ ad M12) c14 c15 (by decide) dX12_isAhead_18 ?_
      refine r_top (fun x16 e16 => ?_)
      have g16 : iR x16 := by rw [e16]; exact hM.get hk0.pos _
      have hv := hv x16 e16 g16
      refine lv_aload_n hx hb dX12_isAhead_19 rfl (lv_at hl 0 rfl) ?_
      refine lv_iload_n hx hb dX12_isAhead_20 rfl (lv_at hl 2 rfl) ?_
      obtain ⟨c17, hv⟩ := hv
      obtain ⟨c18, hv⟩ := hv
      refine r_iald hx hb hC hw k0 (gI_M hk0 τ ad M12) c17 c18 (by decide) dX12_isAhead_21 ?_
      refine r_top (fun x19 e19 => ?_)
      have g19 : iR x19 := by rw [e19]; exact hM.get hk0.pos _
      have hv := hv x19 e19 g19
      refine r_icmp_le (tgt := 29) hx hb dX12_isAhead_22 (by decide) g16 g19 (fun b20 => ?_) (fun b20 => ?_)
      · have hv := hv.1 b20
        refine r_iconst hx hb dX12_isAhead_29 ?_
        exact k_zret (wq_M τ ad) hx hb hr hlk hw hM (by decide) (by decide) hv dX12_isAhead_30
      · have hv := hv.2 b20
        refine r_iconst hx hb dX12_isAhead_25 ?_
        refine lv_goto (tgt := 30) hx hb dX12_isAhead_26 (by decide) ?_
        exact k_zret (wq_M τ ad) hx hb hr hlk hw hM (by decide) (by decide) hv dX12_isAhead_30
set_option maxHeartbeats 4000000 in
set_option maxRecDepth 100000 in
theorem mX12_passes (l : Launch) (D : va_G) (τ : Nat → ClassId) (ad : Nat → Nat) (sA sV : Nat → Nat) (sz : Nat) (p1 : Int) (p2 : Int) (hp1 : iR p1) (hp2 : iR p2) (M : Mem) (hM : MR M) (Q : Int → Mem → Prop) (hv : qX12_passes p1 p2 M Q) : Met l yX12_passes (lw_w yX12_passes cX12_passes 4 (some .int)) (rmk 7 0 0) (kPc D τ sA sV (WM τ ad M) sz [.ref (ad 1), .int (iI p1), .int (iI p2)]) (gQi D (EQi (WM τ ad) MR Q) (va_A (WM τ ad M) sz)) 0 0 (va_A (WM τ ad M) sz) := by
  refine k_met (ret := (some .int)) (Qc := gQi D (EQi (WM τ ad) MR Q)) (by decide +kernel) (Nat.le_of_ble_eq_true rfl) ?_
  intro p e s m args below meth c A ls hx hb hml hr hlk hnm hC hLS hA hw hl
  have hC : cx D τ s m args RX12 := hC
  have hl : lv_has ls 4 [(0, .ref (ad 1)), (1, .int (iI p1)), (2, .int (iI p2))] := hl
  unfold qX12_passes at hv
  have L71 : ∀ (X97 : Int → Mem → Prop), (∀ (v3 : Int) (M : Mem) (H : Heap) (locs : List Loc) (ls : Array Slot), MR M → X97 v3 M → wS D A s.heap (WM τ ad M) H locs → lv_has ls 4 [(0, .ref (ad 1)), (1, .int (iI p1)), (3, .int (iI v3))] → W p l e (rmk 7 0 0) s m args below meth c H locs 0 0 (MQ below (gQi D (EQi (WM τ ad) MR Q) A) args s 0 0 A) (F0 m 97 ls [])) → ∀ (n : Nat) (v3 : Int) (M : Mem) (H : Heap) (locs : List Loc) (ls : Array Slot), MR M → qX12_passes_L71 p1 p2 X97 Q n v3 M → wS D A s.heap (WM τ ad M) H locs → lv_has ls 4 [(0, .ref (ad 1)), (1, .int (iI p1)), (2, .int (iI p2)), (3, .int (iI v3))] → W p l e (rmk 7 0 0) s m args below meth c H locs 0 0 (MQ below (gQi D (EQi (WM τ ad) MR Q) A) args s 0 0 A) (F0 m 71 ls []) := by
    intro X97 hX97 n
    induction n with
    | zero => intro v3 M H locs ls hM hv; rw [qX12_passes_L71] at hv; exact hv.elim
    | succ n ih =>
      intro v3 M H locs ls hM hv hw hl
      rw [qX12_passes_L71] at hv
      refine lv_iload_n hx hb dX12_passes_71 rfl (lv_at hl 3 rfl) ?_
      refine r_bipush hx hb dX12_passes_72 (by decide +kernel) ?_
      obtain ⟨c14, hv⟩ := hv
      refine r_icmp_gt (tgt := 121) hx hb dX12_passes_74 (by decide) c14 (by decide) (fun b15 => ?_) (fun b15 => ?_)
      · have hv := hv.1 b15
        refine r_bipush hx hb dX12_passes_121 (by decide +kernel) ?_
        exact k_iret (wq_M τ ad) hx hb hr hlk hw hM (by decide) hv dX12_passes_123
      · have hv := hv.2 b15
        refine lv_aload_n hx hb dX12_passes_77 rfl (lv_at hl 0 rfl) ?_
        refine lv_aload_n hx hb dX12_passes_78 rfl (lv_at hl 0 rfl) ?_
        refine gf_X12_34 hx hb hC hw 1 (gM_1 τ ad M) rfl dX12_passes_79 ?_
        refine k_cVv (wq_M τ ad) hx hb hml hC hLS hA hw hl.1 (mX12_stepGoes l D τ ad sA sV _ 6 aM_6 M hM _ hv) kX12_stepGoes ml_X12_343 rfl (gM_1 τ ad M) rfl rfl (Nat.le_of_ble_eq_true rfl) (rm_ok (by decide) (by decide)) ⟨Nat.zero_le _, Nat.zero_le _⟩ dX12_passes_82 (fun M16 H locs hM hv hw => ?_)
        refine lv_aload_n hx hb dX12_passes_85 rfl (lv_at hl 0 rfl) ?_
        refine gf_X12_34 hx hb hC hw 1 (gM_1 τ ad M16) rfl dX12_passes_86 ?_
        refine lv_iload_n hx hb dX12_passes_89 rfl (lv_at hl 1 rfl) ?_
        refine lv_iload_n hx hb dX12_passes_90 rfl (lv_at hl 2 rfl) ?_
        refine k_cSz (wq_M τ ad) hx hb hml hC hLS hA hw hl.1 (mX12_isAhead l D τ ad sA sV _ 6 p1 p2 aM_6 hp1 hp2 M16 hM _ hv) kX12_isAhead ml_X12_393 rfl rfl (Nat.le_of_ble_eq_true rfl) (rm_ok (by decide) (by decide)) ⟨Nat.zero_le _, Nat.zero_le _⟩ dX12_passes_91 (fun x17 M17 H locs g17 z17 hM hv hw => ?_)
        have hv := hv g17 z17
        refine r_if_eq (tgt := 115) hx hb dX12_passes_94 (by decide) g17  (fun b18 => ?_) (fun b18 => ?_)
        · have hv := hv.1 b18
          refine r_iinc (v := (v3 + 1)) (lv' := [(3, .int (iI (v3 + 1))), (0, .ref (ad 1)), (1, .int (iI p1)), (2, .int (iI p2))]) hx hb dX12_passes_115 hl (k := 3) rfl rfl (by decide) rfl (fun ls hl => ?_)
          refine lv_goto (tgt := 71) hx hb dX12_passes_118 (by decide) ?_
          exact ih (v3 + 1) M17 _ _ _ hM hv hw (lv_sub hl [1, 2, 3, 0] rfl)
        · have hv := hv.2 b18
          exact hX97 v3 M17 _ _ _ hM hv hw (lv_sub hl [0, 1, 3] rfl)
  refine lv_aload_n hx hb dX12_passes_0 rfl (lv_at hl 0 rfl) ?_
  refine r_iconst hx hb dX12_passes_1 ?_
  obtain ⟨M1, e1⟩ : ∃ M1 : Mem, M1 = up2 M 1 0 0 := ⟨_, rfl⟩
  have hv := hv M1 e1
  refine pf_X12_112 (ws' := (WM τ ad M1)) hx hb hC hw 1 (gM_1 τ ad M) (Nat.le_of_ble_eq_true rfl) (by rw [e1]; exact sM_1_0 τ ad M _) dX12_passes_2 (fun H locs hw => ?_)
  have hM : MR M1 := by rw [e1]; exact hM.put (by decide) (by decide)
  refine lv_aload_n hx hb dX12_passes_5 rfl (lv_at hl 0 rfl) ?_
  refine lv_iload_n hx hb dX12_passes_6 rfl (lv_at hl 1 rfl) ?_
  refine k_cVz (wq_M τ ad) hx hb hml hC hLS hA hw hl.1 (mX12_isHearse l D τ ad sA sV _ p1 hp1 M1 hM _ hv) kX12_isHearse ml_X12_294 rfl (gM_1 τ ad M1) rfl rfl (Nat.le_of_ble_eq_true rfl) (rm_ok (by decide) (by decide)) ⟨Nat.zero_le _, Nat.zero_le _⟩ dX12_passes_7 (fun x2 M2 H locs g2 z2 hM hv hw => ?_)
  have hv := hv g2 z2
  refine r_if_eq (tgt := 26) hx hb dX12_passes_10 (by decide) g2  (fun b3 => ?_) (fun b3 => ?_)
  · have hv := hv.1 b3
    refine r_iconst hx hb dX12_passes_26 ?_
    exact k_iret (wq_M τ ad) hx hb hr hlk hw hM (by decide) hv dX12_passes_27
  · have hv := hv.2 b3
    refine lv_aload_n hx hb dX12_passes_13 rfl (lv_at hl 0 rfl) ?_
    refine lv_iload_n hx hb dX12_passes_14 rfl (lv_at hl 2 rfl) ?_
    refine k_cVz (wq_M τ ad) hx hb hml hC hLS hA hw hl.1 (mX12_isHearse l D τ ad sA sV _ p2 hp2 M2 hM _ hv) kX12_isHearse ml_X12_294 rfl (gM_1 τ ad M2) rfl rfl (Nat.le_of_ble_eq_true rfl) (rm_ok (by decide) (by decide)) ⟨Nat.zero_le _, Nat.zero_le _⟩ dX12_passes_15 (fun x4 M4 H locs g4 z4 hM hv hw => ?_)
    have hv := hv g4 z4
    refine r_if_eq (tgt := 26) hx hb dX12_passes_18 (by decide) g4  (fun b5 => ?_) (fun b5 => ?_)
    · have hv := hv.1 b5
      refine r_iconst hx hb dX12_passes_26 ?_
      exact k_iret (wq_M τ ad) hx hb hr hlk hw hM (by decide) hv dX12_passes_27
    · have hv := hv.2 b5
      refine lv_iload_n hx hb dX12_passes_21 rfl (lv_at hl 1 rfl) ?_
      refine lv_iload_n hx hb dX12_passes_22 rfl (lv_at hl 2 rfl) ?_
      refine r_icmp_ne (tgt := 28) hx hb dX12_passes_23 (by decide) hp1 hp2 (fun b6 => ?_) (fun b6 => ?_)
      · have hv := hv.1 b6
        refine lv_aload_n hx hb dX12_passes_28 rfl (lv_at hl 0 rfl) ?_
        refine gf_X12_31 hx hb hC hw 1 (gM_1 τ ad M4) rfl dX12_passes_29 ?_
        refine lv_iload_n hx hb dX12_passes_32 rfl (lv_at hl 1 rfl) ?_
        refine k_cSz (wq_M τ ad) hx hb hml hC hLS hA hw hl.1 (mX12_isOn l D τ ad sA sV _ 5 p1 aM_5 hp1 M4 hM _ hv) kX12_isOn ml_X12_266 rfl rfl (Nat.le_of_ble_eq_true rfl) (rm_ok (by decide) (by decide)) ⟨Nat.zero_le _, Nat.zero_le _⟩ dX12_passes_33 (fun x7 M7 H locs g7 z7 hM hv hw => ?_)
        have hv := hv g7 z7
        refine r_if_eq (tgt := 62) hx hb dX12_passes_36 (by decide) g7  (fun b8 => ?_) (fun b8 => ?_)
        · have hv := hv.1 b8
          refine r_bipush hx hb dX12_passes_62 (by decide +kernel) ?_
          exact k_iret (wq_M τ ad) hx hb hr hlk hw hM (by decide) hv dX12_passes_64
        · have hv := hv.2 b8
          refine lv_aload_n hx hb dX12_passes_39 rfl (lv_at hl 0 rfl) ?_
          refine gf_X12_31 hx hb hC hw 1 (gM_1 τ ad M7) rfl dX12_passes_40 ?_
          refine lv_iload_n hx hb dX12_passes_43 rfl (lv_at hl 2 rfl) ?_
          refine k_cSz (wq_M τ ad) hx hb hml hC hLS hA hw hl.1 (mX12_isOn l D τ ad sA sV _ 5 p2 aM_5 hp2 M7 hM _ hv) kX12_isOn ml_X12_266 rfl rfl (Nat.le_of_ble_eq_true rfl) (rm_ok (by decide) (by decide)) ⟨Nat.zero_le _, Nat.zero_le _⟩ dX12_passes_44 (fun x9 M9 H locs g9 z9 hM hv hw => ?_)
          have hv := hv g9 z9
          refine r_if_eq (tgt := 62) hx hb dX12_passes_47 (by decide) g9  (fun b10 => ?_) (fun b10 => ?_)
          · have hv := hv.1 b10
            refine r_bipush hx hb dX12_passes_62 (by decide +kernel) ?_
            exact k_iret (wq_M τ ad) hx hb hr hlk hw hM (by decide) hv dX12_passes_64
          · have hv := hv.2 b10
            refine lv_aload_n hx hb dX12_passes_50 rfl (lv_at hl 0 rfl) ?_
            refine gf_X12_31 hx hb hC hw 1 (gM_1 τ ad M9) rfl dX12_passes_51 ?_
            refine lv_iload_n hx hb dX12_passes_54 rfl (lv_at hl 1 rfl) ?_
            refine lv_iload_n hx hb dX12_passes_55 rfl (lv_at hl 2 rfl) ?_
            refine k_cSz (wq_M τ ad) hx hb hml hC hLS hA hw hl.1 (mX12_isAhead l D τ ad sA sV _ 5 p1 p2 aM_5 hp1 hp2 M9 hM _ hv) kX12_isAhead ml_X12_393 rfl rfl (Nat.le_of_ble_eq_true rfl) (rm_ok (by decide) (by decide)) ⟨Nat.zero_le _, Nat.zero_le _⟩ dX12_passes_56 (fun x11 M11 H locs g11 z11 hM hv hw => ?_)
            have hv := hv g11 z11
            refine r_if_eq (tgt := 65) hx hb dX12_passes_59 (by decide) g11  (fun b12 => ?_) (fun b12 => ?_)
            · have hv := hv.1 b12
              refine lv_aload_n hx hb dX12_passes_65 rfl (lv_at hl 0 rfl) ?_
              refine k_cVv (wq_M τ ad) hx hb hml hC hLS hA hw hl.1 (mX12_copies l D τ ad sA sV _   M11 hM _ hv) kX12_copies ml_X12_390 rfl (gM_1 τ ad M11) rfl rfl (Nat.le_of_ble_eq_true rfl) (rm_ok (by decide) (by decide)) ⟨Nat.zero_le _, Nat.zero_le _⟩ dX12_passes_66 (fun M13 H locs hM hv hw => ?_)
              refine r_iconst hx hb dX12_passes_69 ?_
              refine lv_istore_n (lv' := [(3, .int (iI 1)), (0, .ref (ad 1)), (1, .int (iI p1)), (2, .int (iI p2))]) hx hb dX12_passes_70 rfl hl (by decide) rfl (fun ls hl => ?_)
              obtain ⟨n19, hv⟩ := hv
              refine L71 _ ?_ n19 1 M13 _ _ _ hM hv hw (lv_sub hl [1, 2, 3, 0] rfl)
              · intro v3 M H locs ls hM hv hw hl
                refine lv_aload_n hx hb dX12_passes_97 rfl (lv_at hl 0 rfl) ?_
                refine r_iconst hx hb dX12_passes_98 ?_
                obtain ⟨M20, e20⟩ : ∃ M20 : Mem, M20 = up2 M 1 1 0 := ⟨_, rfl⟩
                have hv := hv M20 e20
                refine pf_X12_119 (ws' := (WM τ ad M20)) hx hb hC hw 1 (gM_1 τ ad M) (Nat.le_of_ble_eq_true rfl) (by rw [e20]; exact sM_1_1 τ ad M _) dX12_passes_99 (fun H locs hw => ?_)
                have hM : MR M20 := by rw [e20]; exact hM.put (by decide) (by decide)
                refine lv_aload_n hx hb dX12_passes_102 rfl (lv_at hl 0 rfl) ?_
                refine lv_aload_n hx hb dX12_passes_103 rfl (lv_at hl 0 rfl) ?_
                refine gf_X12_34 hx hb hC hw 1 (gM_1 τ ad M20) rfl dX12_passes_104 ?_
                refine lv_iload_n hx hb dX12_passes_107 rfl (lv_at hl 1 rfl) ?_
                obtain ⟨c21, hv⟩ := hv
                obtain ⟨c22, hv⟩ := hv
                refine r_iald hx hb hC hw 6 (gI_M aM_6 τ ad M20) c21 c22 (by decide) dX12_passes_108 ?_
                refine r_top (fun x23 e23 => ?_)
                have g23 : iR x23 := by rw [e23]; exact hM.get aM_6.pos _
                have hv := hv x23 e23 g23
                refine r_i2l hx hb dX12_passes_109 g23 ?_
                refine k_cVv (wq_M τ ad) hx hb hml hC hLS hA hw hl.1 (mX12_enters l D τ ad sA sV _ x23 (iR_lR g23) M20 hM _ hv) kX12_enters ml_X12_358 rfl (gM_1 τ ad M20) rfl rfl (Nat.le_of_ble_eq_true rfl) (rm_ok (by decide) (by decide)) ⟨Nat.zero_le _, Nat.zero_le _⟩ dX12_passes_110 (fun M24 H locs hM hv hw => ?_)
                refine lv_iload_n hx hb dX12_passes_113 rfl (lv_at hl 2 rfl) ?_
                obtain ⟨c25, hv⟩ := hv
                exact k_iret (wq_M τ ad) hx hb hr hlk hw hM c25 hv dX12_passes_114
            · have hv := hv.2 b12
              refine r_bipush hx hb dX12_passes_62 (by decide +kernel) ?_
              exact k_iret (wq_M τ ad) hx hb hr hlk hw hM (by decide) hv dX12_passes_64
      · have hv := hv.2 b6
        refine r_iconst hx hb dX12_passes_26 ?_
        exact k_iret (wq_M τ ad) hx hb hr hlk hw hM (by decide) hv dX12_passes_27
set_option maxHeartbeats 4000000 in
set_option maxRecDepth 100000 in
theorem mX12_ends (l : Launch) (D : va_G) (τ : Nat → ClassId) (ad : Nat → Nat) (sA sV : Nat → Nat) (sz : Nat) (p1 : Int) (hp1 : iR p1) (M : Mem) (hM : MR M) (Q : Int → Mem → Prop) (hv : qX12_ends p1 M Q) : Met l yX12_ends (lw_w yX12_ends cX12_ends 3 (some .int)) (rmk 8 0 0) (kPc D τ sA sV (WM τ ad M) sz [.ref (ad 1), .int (iI p1)]) (gQi D (EQi (WM τ ad) MR Q) (va_A (WM τ ad M) sz)) 0 0 (va_A (WM τ ad M) sz) := by
  refine k_met (ret := (some .int)) (Qc := gQi D (EQi (WM τ ad) MR Q)) (by decide +kernel) (Nat.le_of_ble_eq_true rfl) ?_
  intro p e s m args below meth c A ls hx hb hml hr hlk hnm hC hLS hA hw hl
  have hC : cx D τ s m args RX12 := hC
  have hl : lv_has ls 3 [(0, .ref (ad 1)), (1, .int (iI p1))] := hl
  unfold qX12_ends at hv
  have L30 : ∀ (X48 : Int → Mem → Prop), (∀ (v2 : Int) (M : Mem) (H : Heap) (locs : List Loc) (ls : Array Slot), MR M → X48 v2 M → wS D A s.heap (WM τ ad M) H locs → lv_has ls 3 [(0, .ref (ad 1)), (1, .int (iI p1)), (2, .int (iI v2))] → W p l e (rmk 8 0 0) s m args below meth c H locs 0 0 (MQ below (gQi D (EQi (WM τ ad) MR Q) A) args s 0 0 A) (F0 m 48 ls [])) → ∀ (n : Nat) (v2 : Int) (M : Mem) (H : Heap) (locs : List Loc) (ls : Array Slot), MR M → qX12_ends_L30 p1 X48 Q n v2 M → wS D A s.heap (WM τ ad M) H locs → lv_has ls 3 [(0, .ref (ad 1)), (1, .int (iI p1)), (2, .int (iI v2))] → W p l e (rmk 8 0 0) s m args below meth c H locs 0 0 (MQ below (gQi D (EQi (WM τ ad) MR Q) A) args s 0 0 A) (F0 m 30 ls []) := by
    intro X48 hX48 n
    induction n with
    | zero => intro v2 M H locs ls hM hv; rw [qX12_ends_L30] at hv; exact hv.elim
    | succ n ih =>
      intro v2 M H locs ls hM hv hw hl
      rw [qX12_ends_L30] at hv
      refine lv_iload_n hx hb dX12_ends_30 rfl (lv_at hl 2 rfl) ?_
      refine r_sipush hx hb dX12_ends_31 (by decide +kernel) ?_
      obtain ⟨c6, hv⟩ := hv
      refine r_icmp_gt (tgt := 94) hx hb dX12_ends_34 (by decide) c6 (by decide) (fun b7 => ?_) (fun b7 => ?_)
      · have hv := hv.1 b7
        refine r_bipush hx hb dX12_ends_94 (by decide +kernel) ?_
        exact k_iret (wq_M τ ad) hx hb hr hlk hw hM (by decide) hv dX12_ends_96
      · have hv := hv.2 b7
        refine lv_aload_n hx hb dX12_ends_37 rfl (lv_at hl 0 rfl) ?_
        refine gf_X12_34 hx hb hC hw 1 (gM_1 τ ad M) rfl dX12_ends_38 ?_
        refine lv_iload_n hx hb dX12_ends_41 rfl (lv_at hl 1 rfl) ?_
        refine k_cSz (wq_M τ ad) hx hb hml hC hLS hA hw hl.1 (mX12_isEnded l D τ ad sA sV _ 6 p1 aM_6 hp1 M hM _ hv) kX12_isEnded ml_X12_132 rfl rfl (Nat.le_of_ble_eq_true rfl) (rm_ok (by decide) (by decide)) ⟨Nat.zero_le _, Nat.zero_le _⟩ dX12_ends_42 (fun x8 M8 H locs g8 z8 hM hv hw => ?_)
        have hv := hv g8 z8
        refine r_if_eq (tgt := 80) hx hb dX12_ends_45 (by decide) g8  (fun b9 => ?_) (fun b9 => ?_)
        · have hv := hv.1 b9
          refine lv_aload_n hx hb dX12_ends_80 rfl (lv_at hl 0 rfl) ?_
          refine lv_aload_n hx hb dX12_ends_81 rfl (lv_at hl 0 rfl) ?_
          refine gf_X12_34 hx hb hC hw 1 (gM_1 τ ad M8) rfl dX12_ends_82 ?_
          refine k_cVv (wq_M τ ad) hx hb hml hC hLS hA hw hl.1 (mX12_stepGoes l D τ ad sA sV _ 6 aM_6 M8 hM _ hv) kX12_stepGoes ml_X12_343 rfl (gM_1 τ ad M8) rfl rfl (Nat.le_of_ble_eq_true rfl) (rm_ok (by decide) (by decide)) ⟨Nat.zero_le _, Nat.zero_le _⟩ dX12_ends_85 (fun M10 H locs hM hv hw => ?_)
          refine r_iinc (v := (v2 + 1)) (lv' := [(2, .int (iI (v2 + 1))), (0, .ref (ad 1)), (1, .int (iI p1))]) hx hb dX12_ends_88 hl (k := 2) rfl rfl (by decide) rfl (fun ls hl => ?_)
          refine lv_goto (tgt := 30) hx hb dX12_ends_91 (by decide) ?_
          exact ih (v2 + 1) M10 _ _ _ hM hv hw (lv_sub hl [1, 2, 0] rfl)
        · have hv := hv.2 b9
          exact hX48 v2 M8 _ _ _ hM hv hw (lv_sub hl [0, 1, 2] rfl)
  refine lv_aload_n hx hb dX12_ends_0 rfl (lv_at hl 0 rfl) ?_
  refine r_iconst hx hb dX12_ends_1 ?_
  obtain ⟨M1, e1⟩ : ∃ M1 : Mem, M1 = up2 M 1 0 0 := ⟨_, rfl⟩
  have hv := hv M1 e1
  refine pf_X12_112 (ws' := (WM τ ad M1)) hx hb hC hw 1 (gM_1 τ ad M) (Nat.le_of_ble_eq_true rfl) (by rw [e1]; exact sM_1_0 τ ad M _) dX12_ends_2 (fun H locs hw => ?_)
  have hM : MR M1 := by rw [e1]; exact hM.put (by decide) (by decide)
  refine lv_aload_n hx hb dX12_ends_5 rfl (lv_at hl 0 rfl) ?_
  refine lv_iload_n hx hb dX12_ends_6 rfl (lv_at hl 1 rfl) ?_
  refine k_cVz (wq_M τ ad) hx hb hml hC hLS hA hw hl.1 (mX12_isMourner l D τ ad sA sV _ p1 hp1 M1 hM _ hv) kX12_isMourner ml_X12_308 rfl (gM_1 τ ad M1) rfl rfl (Nat.le_of_ble_eq_true rfl) (rm_ok (by decide) (by decide)) ⟨Nat.zero_le _, Nat.zero_le _⟩ dX12_ends_7 (fun x2 M2 H locs g2 z2 hM hv hw => ?_)
  have hv := hv g2 z2
  refine r_if_ne (tgt := 15) hx hb dX12_ends_10 (by decide) g2  (fun b3 => ?_) (fun b3 => ?_)
  · have hv := hv.1 b3
    refine lv_aload_n hx hb dX12_ends_15 rfl (lv_at hl 0 rfl) ?_
    refine k_cVv (wq_M τ ad) hx hb hml hC hLS hA hw hl.1 (mX12_copies l D τ ad sA sV _   M2 hM _ hv) kX12_copies ml_X12_390 rfl (gM_1 τ ad M2) rfl rfl (Nat.le_of_ble_eq_true rfl) (rm_ok (by decide) (by decide)) ⟨Nat.zero_le _, Nat.zero_le _⟩ dX12_ends_16 (fun M4 H locs hM hv hw => ?_)
    refine lv_aload_n hx hb dX12_ends_19 rfl (lv_at hl 0 rfl) ?_
    refine lv_aload_n hx hb dX12_ends_20 rfl (lv_at hl 0 rfl) ?_
    refine gf_X12_34 hx hb hC hw 1 (gM_1 τ ad M4) rfl dX12_ends_21 ?_
    refine r_iconst hx hb dX12_ends_24 ?_
    refine k_cVv (wq_M τ ad) hx hb hml hC hLS hA hw hl.1 (mX12_goesOn l D τ ad sA sV _ 6 0 aM_6 (by decide) M4 hM _ hv) kX12_goesOn ml_X12_355 rfl (gM_1 τ ad M4) rfl rfl (Nat.le_of_ble_eq_true rfl) (rm_ok (by decide) (by decide)) ⟨Nat.zero_le _, Nat.zero_le _⟩ dX12_ends_25 (fun M5 H locs hM hv hw => ?_)
    refine r_iconst hx hb dX12_ends_28 ?_
    refine lv_istore_n (lv' := [(2, .int (iI 0)), (0, .ref (ad 1)), (1, .int (iI p1))]) hx hb dX12_ends_29 rfl hl (by decide) rfl (fun ls hl => ?_)
    obtain ⟨n11, hv⟩ := hv
    refine L30 _ ?_ n11 0 M5 _ _ _ hM hv hw (lv_sub hl [1, 2, 0] rfl)
    · intro v2 M H locs ls hM hv hw hl
      refine lv_aload_n hx hb dX12_ends_48 rfl (lv_at hl 0 rfl) ?_
      refine r_iconst hx hb dX12_ends_49 ?_
      obtain ⟨M12, e12⟩ : ∃ M12 : Mem, M12 = up2 M 1 1 0 := ⟨_, rfl⟩
      have hv := hv M12 e12
      refine pf_X12_119 (ws' := (WM τ ad M12)) hx hb hC hw 1 (gM_1 τ ad M) (Nat.le_of_ble_eq_true rfl) (by rw [e12]; exact sM_1_1 τ ad M _) dX12_ends_50 (fun H locs hw => ?_)
      have hM : MR M12 := by rw [e12]; exact hM.put (by decide) (by decide)
      refine lv_aload_n hx hb dX12_ends_53 rfl (lv_at hl 0 rfl) ?_
      refine lv_iload_n hx hb dX12_ends_54 rfl (lv_at hl 2 rfl) ?_
      obtain ⟨c13, hv⟩ := hv
      refine r_i2l hx hb dX12_ends_55 c13 ?_
      refine k_cVv (wq_M τ ad) hx hb hml hC hLS hA hw hl.1 (mX12_enters l D τ ad sA sV _ v2 (iR_lR c13) M12 hM _ hv) kX12_enters ml_X12_358 rfl (gM_1 τ ad M12) rfl rfl (Nat.le_of_ble_eq_true rfl) (rm_ok (by decide) (by decide)) ⟨Nat.zero_le _, Nat.zero_le _⟩ dX12_ends_56 (fun M14 H locs hM hv hw => ?_)
      refine lv_aload_n hx hb dX12_ends_59 rfl (lv_at hl 0 rfl) ?_
      refine lv_aload_n hx hb dX12_ends_60 rfl (lv_at hl 0 rfl) ?_
      refine gf_X12_67 hx hb hC hw 1 (gM_1 τ ad M14) rfl dX12_ends_61 ?_
      refine lv_iload_n hx hb dX12_ends_64 rfl (lv_at hl 1 rfl) ?_
      obtain ⟨c15, hv⟩ := hv
      obtain ⟨c16, hv⟩ := hv
      refine r_iald hx hb hC hw 17 (gI_M aM_17 τ ad M14) c15 c16 (by decide) dX12_ends_65 ?_
      refine r_top (fun x17 e17 => ?_)
      have g17 : iR x17 := by rw [e17]; exact hM.get aM_17.pos _
      have hv := hv x17 e17 g17
      refine r_i2l hx hb dX12_ends_66 g17 ?_
      refine k_cVv (wq_M τ ad) hx hb hml hC hLS hA hw hl.1 (mX12_enters l D τ ad sA sV _ x17 (iR_lR g17) M14 hM _ hv) kX12_enters ml_X12_358 rfl (gM_1 τ ad M14) rfl rfl (Nat.le_of_ble_eq_true rfl) (rm_ok (by decide) (by decide)) ⟨Nat.zero_le _, Nat.zero_le _⟩ dX12_ends_67 (fun M18 H locs hM hv hw => ?_)
      refine lv_aload_n hx hb dX12_ends_70 rfl (lv_at hl 0 rfl) ?_
      refine gf_X12_34 hx hb hC hw 1 (gM_1 τ ad M18) rfl dX12_ends_71 ?_
      refine r_bipush hx hb dX12_ends_74 (by decide +kernel) ?_
      refine lv_iload_n hx hb dX12_ends_76 rfl (lv_at hl 1 rfl) ?_
      refine r_iadd (z := (29 + p1)) hx hb dX12_ends_77 rfl ?_
      obtain ⟨c19, hv⟩ := hv
      obtain ⟨c20, hv⟩ := hv
      refine r_iald hx hb hC hw 6 (gI_M aM_6 τ ad M18) c19 c20 (by decide) dX12_ends_78 ?_
      refine r_top (fun x21 e21 => ?_)
      have g21 : iR x21 := by rw [e21]; exact hM.get aM_6.pos _
      have hv := hv x21 e21 g21
      exact k_iret (wq_M τ ad) hx hb hr hlk hw hM g21 hv dX12_ends_79
  · have hv := hv.2 b3
    refine r_iconst hx hb dX12_ends_13 ?_
    exact k_iret (wq_M τ ad) hx hb hr hlk hw hM (by decide) hv dX12_ends_14
set_option maxHeartbeats 4000000 in
set_option maxRecDepth 100000 in
theorem mX12_endedBy (l : Launch) (D : va_G) (τ : Nat → ClassId) (ad : Nat → Nat) (sA sV : Nat → Nat) (sz : Nat) (k1 : Nat) (p2 : Int) (hk1 : MI 38 k1) (hp2 : iR p2) (M : Mem) (hM : MR M) (Q : Int → Mem → Prop) (hv : qX12_endedBy k1 p2 M Q) : Met l yX12_endedBy (lw_w yX12_endedBy cX12_endedBy 5 (some .int)) (rmk 2 0 0) (kPc D τ sA sV (WM τ ad M) sz [.ref (ad 1), .ref (ad k1), .int (iI p2)]) (gQi D (EQi (WM τ ad) MR Q) (va_A (WM τ ad M) sz)) 0 0 (va_A (WM τ ad M) sz) := by
  refine k_met (ret := (some .int)) (Qc := gQi D (EQi (WM τ ad) MR Q)) (by decide +kernel) (Nat.le_of_ble_eq_true rfl) ?_
  intro p e s m args below meth c A ls hx hb hml hr hlk hnm hC hLS hA hw hl
  have hC : cx D τ s m args RX12 := hC
  have hl : lv_has ls 5 [(0, .ref (ad 1)), (1, .ref (ad k1)), (2, .int (iI p2))] := hl
  unfold qX12_endedBy at hv
  have J46 : ∀ (R : Int → Int → Mem → Prop), (∀ (v3 : Int) (v4 : Int) (M : Mem) (H : Heap) (locs : List Loc) (ls : Array Slot), MR M → R v3 v4 M → wS D A s.heap (WM τ ad M) H locs → lv_has ls 5 [(0, .ref (ad 1)), (1, .ref (ad k1)), (2, .int (iI p2)), (3, .int (iI v3)), (4, .int (iI v4))] → W p l e (rmk 2 0 0) s m args below meth c H locs 0 0 (MQ below (gQi D (EQi (WM τ ad) MR Q) A) args s 0 0 A) (F0 m 5 ls [])) → ∀ (v4 : Int) (t0 : Int) (t1 : Int) (M : Mem) (H : Heap) (locs : List Loc) (ls : Array Slot), MR M → qX12_endedBy_J46 k1 p2 R  Q v4 t0 t1 M → wS D A s.heap (WM τ ad M) H locs → lv_has ls 5 [(0, .ref (ad 1)), (1, .ref (ad k1)), (2, .int (iI p2)), (4, .int (iI v4))] → W p l e (rmk 2 0 0) s m args below meth c H locs 0 0 (MQ below (gQi D (EQi (WM τ ad) MR Q) A) args s 0 0 A) (F0 m 46 ls [.int (iI t0), .int (iI t1)]) := by
    intro R hR  v4 t0 t1 M H locs ls hM hv hw hl
    unfold qX12_endedBy_J46 at hv
    refine lv_iload_n hx hb dX12_endedBy_46 rfl (lv_at hl 2 rfl) ?_
    obtain ⟨c15, hv⟩ := hv
    refine r_icmp_ne (tgt := 57) hx hb dX12_endedBy_47 (by decide) c15 hp2 (fun b16 => ?_) (fun b16 => ?_)
    · have hv := hv.1 b16
      refine r_iconst hx hb dX12_endedBy_57 ?_
      refine r_iorF hx hb dX12_endedBy_58 (fun x17 e17 g17 => ?_)
      have hv := hv x17 e17 g17
      refine lv_istore_n (lv' := [(3, .int (iI x17)), (0, .ref (ad 1)), (1, .ref (ad k1)), (2, .int (iI p2)), (4, .int (iI v4))]) hx hb dX12_endedBy_59 rfl hl (by decide) rfl (fun ls hl => ?_)
      refine r_iinc (v := (v4 + 1)) (lv' := [(4, .int (iI (v4 + 1))), (3, .int (iI x17)), (0, .ref (ad 1)), (1, .ref (ad k1)), (2, .int (iI p2))]) hx hb dX12_endedBy_60 hl (k := 4) rfl rfl (by decide) rfl (fun ls hl => ?_)
      refine lv_goto (tgt := 5) hx hb dX12_endedBy_63 (by decide) ?_
      exact hR x17 (v4 + 1) M _ _ _ hM hv hw (lv_sub hl [2, 3, 4, 1, 0] rfl)
    · have hv := hv.2 b16
      refine r_iconst hx hb dX12_endedBy_50 ?_
      refine lv_iload hx hb dX12_endedBy_51 (lv_at hl 3 rfl) ?_
      refine r_ishlF hx hb dX12_endedBy_53 (fun x18 e18 g18 => ?_)
      have hv := hv x18 e18 g18
      refine lv_goto (tgt := 58) hx hb dX12_endedBy_54 (by decide) ?_
      refine r_iorF hx hb dX12_endedBy_58 (fun x19 e19 g19 => ?_)
      have hv := hv x19 e19 g19
      refine lv_istore_n (lv' := [(3, .int (iI x19)), (0, .ref (ad 1)), (1, .ref (ad k1)), (2, .int (iI p2)), (4, .int (iI v4))]) hx hb dX12_endedBy_59 rfl hl (by decide) rfl (fun ls hl => ?_)
      refine r_iinc (v := (v4 + 1)) (lv' := [(4, .int (iI (v4 + 1))), (3, .int (iI x19)), (0, .ref (ad 1)), (1, .ref (ad k1)), (2, .int (iI p2))]) hx hb dX12_endedBy_60 hl (k := 4) rfl rfl (by decide) rfl (fun ls hl => ?_)
      refine lv_goto (tgt := 5) hx hb dX12_endedBy_63 (by decide) ?_
      exact hR x19 (v4 + 1) M _ _ _ hM hv hw (lv_sub hl [2, 3, 4, 1, 0] rfl)
  have L5 : ∀ (n : Nat) (v3 : Int) (v4 : Int) (M : Mem) (H : Heap) (locs : List Loc) (ls : Array Slot), MR M → qX12_endedBy_L5 k1 p2  Q n v3 v4 M → wS D A s.heap (WM τ ad M) H locs → lv_has ls 5 [(0, .ref (ad 1)), (1, .ref (ad k1)), (2, .int (iI p2)), (3, .int (iI v3)), (4, .int (iI v4))] → W p l e (rmk 2 0 0) s m args below meth c H locs 0 0 (MQ below (gQi D (EQi (WM τ ad) MR Q) A) args s 0 0 A) (F0 m 5 ls []) := by
    intro n
    induction n with
    | zero => intro v3 v4 M H locs ls hM hv; rw [qX12_endedBy_L5] at hv; exact hv.elim
    | succ n ih =>
      intro v3 v4 M H locs ls hM hv hw hl
      rw [qX12_endedBy_L5] at hv
      refine lv_iload hx hb dX12_endedBy_5 (lv_at hl 4 rfl) ?_
      refine lv_aload_n hx hb dX12_endedBy_7 rfl (lv_at hl 0 rfl) ?_
      refine gf_X12_129 hx hb hC hw 1 (gM_1 τ ad M) rfl dX12_endedBy_8 ?_
      refine r_top (fun x1 e1 => ?_)
      have g1 : iR x1 := by rw [e1]; exact hM.get (by decide) _
      have hv := hv x1 e1 g1
      obtain ⟨c2, hv⟩ := hv
      refine r_icmp_ge (tgt := 66) hx hb dX12_endedBy_11 (by decide) c2 g1 (fun b3 => ?_) (fun b3 => ?_)
      · have hv := hv.1 b3
        refine lv_iload_n hx hb dX12_endedBy_66 rfl (lv_at hl 3 rfl) ?_
        obtain ⟨c4, hv⟩ := hv
        exact k_iret (wq_M τ ad) hx hb hr hlk hw hM c4 hv dX12_endedBy_67
      · have hv := hv.2 b3
        refine lv_iload_n hx hb dX12_endedBy_14 rfl (lv_at hl 3 rfl) ?_
        refine lv_aload_n hx hb dX12_endedBy_15 rfl (lv_at hl 1 rfl) ?_
        refine lv_iload hx hb dX12_endedBy_16 (lv_at hl 4 rfl) ?_
        refine k_cSz (wq_M τ ad) hx hb hml hC hLS hA hw hl.1 (mX12_isEnded l D τ ad sA sV _ k1 v4 hk1 c2 M hM _ hv) kX12_isEnded ml_X12_132 rfl rfl (Nat.le_of_ble_eq_true rfl) (rm_ok (by decide) (by decide)) ⟨Nat.zero_le _, Nat.zero_le _⟩ dX12_endedBy_18 (fun x5 M5 H locs g5 z5 hM hv hw => ?_)
        have hv := hv g5 z5
        refine r_if_eq (tgt := 57) hx hb dX12_endedBy_21 (by decide) g5  (fun b6 => ?_) (fun b6 => ?_)
        · have hv := hv.1 b6
          refine r_iconst hx hb dX12_endedBy_57 ?_
          refine r_iorF hx hb dX12_endedBy_58 (fun x7 e7 g7 => ?_)
          have hv := hv x7 e7 g7
          refine lv_istore_n (lv' := [(3, .int (iI x7)), (0, .ref (ad 1)), (1, .ref (ad k1)), (2, .int (iI p2)), (4, .int (iI v4))]) hx hb dX12_endedBy_59 rfl hl (by decide) rfl (fun ls hl => ?_)
          refine r_iinc (v := (v4 + 1)) (lv' := [(4, .int (iI (v4 + 1))), (3, .int (iI x7)), (0, .ref (ad 1)), (1, .ref (ad k1)), (2, .int (iI p2))]) hx hb dX12_endedBy_60 hl (k := 4) rfl rfl (by decide) rfl (fun ls hl => ?_)
          refine lv_goto (tgt := 5) hx hb dX12_endedBy_63 (by decide) ?_
          exact ih x7 (v4 + 1) M5 _ _ _ hM hv hw (lv_sub hl [2, 3, 4, 1, 0] rfl)
        · have hv := hv.2 b6
          refine lv_aload_n hx hb dX12_endedBy_24 rfl (lv_at hl 1 rfl) ?_
          refine r_bipush hx hb dX12_endedBy_25 (by decide +kernel) ?_
          refine lv_iload hx hb dX12_endedBy_27 (lv_at hl 4 rfl) ?_
          refine r_iadd (z := (29 + v4)) hx hb dX12_endedBy_29 rfl ?_
          obtain ⟨c8, hv⟩ := hv
          obtain ⟨c9, hv⟩ := hv
          refine r_iald hx hb hC hw k1 (gI_M hk1 τ ad M5) c8 c9 (by decide) dX12_endedBy_30 ?_
          refine r_top (fun x10 e10 => ?_)
          have g10 : iR x10 := by rw [e10]; exact hM.get hk1.pos _
          have hv := hv x10 e10 g10
          refine lv_aload_n hx hb dX12_endedBy_31 rfl (lv_at hl 0 rfl) ?_
          refine gf_X12_24 hx hb hC hw 1 (gM_1 τ ad M5) rfl dX12_endedBy_32 ?_
          refine lv_iload hx hb dX12_endedBy_35 (lv_at hl 4 rfl) ?_
          obtain ⟨c11, hv⟩ := hv
          obtain ⟨c12, hv⟩ := hv
          refine r_iald hx hb hC hw 3 (gI_M aM_3 τ ad M5) c11 c12 (by decide) dX12_endedBy_37 ?_
          refine r_top (fun x13 e13 => ?_)
          have g13 : iR x13 := by rw [e13]; exact hM.get aM_3.pos _
          have hv := hv x13 e13 g13
          refine r_icmp_ne (tgt := 45) hx hb dX12_endedBy_38 (by decide) g10 g13 (fun b14 => ?_) (fun b14 => ?_)
          · have hv := hv.1 b14
            refine r_iconst hx hb dX12_endedBy_45 ?_
            exact J46 _ ih  v4 0 v3 M5 _ _ _ hM hv hw (lv_sub hl [0, 1, 2, 4] rfl)
          · have hv := hv.2 b14
            refine r_iconst hx hb dX12_endedBy_41 ?_
            refine lv_goto (tgt := 46) hx hb dX12_endedBy_42 (by decide) ?_
            exact J46 _ ih  v4 1 v3 M5 _ _ _ hM hv hw (lv_sub hl [0, 1, 2, 4] rfl)
  refine r_iconst hx hb dX12_endedBy_0 ?_
  refine lv_istore_n (lv' := [(3, .int (iI 0)), (0, .ref (ad 1)), (1, .ref (ad k1)), (2, .int (iI p2))]) hx hb dX12_endedBy_1 rfl hl (by decide) rfl (fun ls hl => ?_)
  refine r_iconst hx hb dX12_endedBy_2 ?_
  refine lv_istore (lv' := [(4, .int (iI 0)), (3, .int (iI 0)), (0, .ref (ad 1)), (1, .ref (ad k1)), (2, .int (iI p2))]) hx hb dX12_endedBy_3 hl (by decide) rfl (fun ls hl => ?_)
  obtain ⟨n20, hv⟩ := hv
  refine L5  n20 0 0 M _ _ _ hM hv hw (lv_sub hl [2, 3, 4, 1, 0] rfl)
set_option maxHeartbeats 4000000 in
set_option maxRecDepth 100000 in
theorem mX12_rightThen (l : Launch) (D : va_G) (τ : Nat → ClassId) (ad : Nat → Nat) (sA sV : Nat → Nat) (sz : Nat)   (M : Mem) (hM : MR M) (Q : Int → Mem → Prop) (hv : qX12_rightThen  M Q) : Met l yX12_rightThen (lw_w yX12_rightThen cX12_rightThen 3 (some .int)) (rmk 7 0 0) (kPc D τ sA sV (WM τ ad M) sz [.ref (ad 1)]) (gQi D (EQi (WM τ ad) MR Q) (va_A (WM τ ad M) sz)) 0 0 (va_A (WM τ ad M) sz) := by
  refine k_met (ret := (some .int)) (Qc := gQi D (EQi (WM τ ad) MR Q)) (by decide +kernel) (Nat.le_of_ble_eq_true rfl) ?_
  intro p e s m args below meth c A ls hx hb hml hr hlk hnm hC hLS hA hw hl
  have hC : cx D τ s m args RX12 := hC
  have hl : lv_has ls 3 [(0, .ref (ad 1))] := hl
  unfold qX12_rightThen at hv
  have J35 : ∀ (R : Int → Int → Mem → Prop), (∀ (v1 : Int) (v2 : Int) (M : Mem) (H : Heap) (locs : List Loc) (ls : Array Slot), MR M → R v1 v2 M → wS D A s.heap (WM τ ad M) H locs → lv_has ls 3 [(0, .ref (ad 1)), (1, .int (iI v1)), (2, .int (iI v2))] → W p l e (rmk 7 0 0) s m args below meth c H locs 0 0 (MQ below (gQi D (EQi (WM τ ad) MR Q) A) args s 0 0 A) (F0 m 4 ls [])) → ∀ (X50 : Mem → Prop), (∀  (M : Mem) (H : Heap) (locs : List Loc) (ls : Array Slot), MR M → X50  M → wS D A s.heap (WM τ ad M) H locs → lv_has ls 3 [(0, .ref (ad 1))] → W p l e (rmk 7 0 0) s m args below meth c H locs 0 0 (MQ below (gQi D (EQi (WM τ ad) MR Q) A) args s 0 0 A) (F0 m 50 ls [])) → ∀ (v2 : Int) (t0 : Int) (M : Mem) (H : Heap) (locs : List Loc) (ls : Array Slot), MR M → qX12_rightThen_J35  R X50 Q v2 t0 M → wS D A s.heap (WM τ ad M) H locs → lv_has ls 3 [(0, .ref (ad 1)), (2, .int (iI v2))] → W p l e (rmk 7 0 0) s m args below meth c H locs 0 0 (MQ below (gQi D (EQi (WM τ ad) MR Q) A) args s 0 0 A) (F0 m 35 ls [.int (iI t0)]) := by
    intro R hR X50 hX50 v2 t0 M H locs ls hM hv hw hl
    unfold qX12_rightThen_J35 at hv
    refine lv_istore_n (lv' := [(1, .int (iI t0)), (0, .ref (ad 1)), (2, .int (iI v2))]) hx hb dX12_rightThen_35 rfl hl (by decide) rfl (fun ls hl => ?_)
    refine lv_aload_n hx hb dX12_rightThen_36 rfl (lv_at hl 1 rfl) ?_
    refine lv_aload_n hx hb dX12_rightThen_37 rfl (lv_at hl 1 rfl) ?_
    refine gf_X12_34 hx hb hC hw 1 (gM_1 τ ad M) rfl dX12_rightThen_38 ?_
    refine k_cVv (wq_M τ ad) hx hb hml hC hLS hA hw hl.1 (mX12_stepGoes l D τ ad sA sV _ 6 aM_6 M hM _ hv) kX12_stepGoes ml_X12_343 rfl (gM_1 τ ad M) rfl rfl (Nat.le_of_ble_eq_true rfl) (rm_ok (by decide) (by decide)) ⟨Nat.zero_le _, Nat.zero_le _⟩ dX12_rightThen_41 (fun M8 H locs hM hv hw => ?_)
    refine r_iinc (v := (v2 + 1)) (lv' := [(2, .int (iI (v2 + 1))), (1, .int (iI t0)), (0, .ref (ad 1))]) hx hb dX12_rightThen_44 hl (k := 2) rfl rfl (by decide) rfl (fun ls hl => ?_)
    refine lv_goto (tgt := 4) hx hb dX12_rightThen_47 (by decide) ?_
    exact hR t0 (v2 + 1) M8 _ _ _ hM hv hw (lv_sub hl [2, 1, 0] rfl)
  have L4 : ∀ (X50 : Mem → Prop), (∀  (M : Mem) (H : Heap) (locs : List Loc) (ls : Array Slot), MR M → X50  M → wS D A s.heap (WM τ ad M) H locs → lv_has ls 3 [(0, .ref (ad 1))] → W p l e (rmk 7 0 0) s m args below meth c H locs 0 0 (MQ below (gQi D (EQi (WM τ ad) MR Q) A) args s 0 0 A) (F0 m 50 ls [])) → ∀ (n : Nat) (v1 : Int) (v2 : Int) (M : Mem) (H : Heap) (locs : List Loc) (ls : Array Slot), MR M → qX12_rightThen_L4  X50 Q n v1 v2 M → wS D A s.heap (WM τ ad M) H locs → lv_has ls 3 [(0, .ref (ad 1)), (1, .int (iI v1)), (2, .int (iI v2))] → W p l e (rmk 7 0 0) s m args below meth c H locs 0 0 (MQ below (gQi D (EQi (WM τ ad) MR Q) A) args s 0 0 A) (F0 m 4 ls []) := by
    intro X50 hX50 n
    induction n with
    | zero => intro v1 v2 M H locs ls hM hv; rw [qX12_rightThen_L4] at hv; exact hv.elim
    | succ n ih =>
      intro v1 v2 M H locs ls hM hv hw hl
      rw [qX12_rightThen_L4] at hv
      refine lv_iload_n hx hb dX12_rightThen_4 rfl (lv_at hl 2 rfl) ?_
      refine r_sipush hx hb dX12_rightThen_5 (by decide +kernel) ?_
      obtain ⟨c1, hv⟩ := hv
      refine r_icmp_ge (tgt := 50) hx hb dX12_rightThen_8 (by decide) c1 (by decide) (fun b2 => ?_) (fun b2 => ?_)
      · have hv := hv.1 b2
        exact hX50  M _ _ _ hM hv hw (lv_sub hl [0] rfl)
      · have hv := hv.2 b2
        refine lv_iload_n hx hb dX12_rightThen_11 rfl (lv_at hl 1 rfl) ?_
        obtain ⟨c3, hv⟩ := hv
        refine r_if_eq (tgt := 50) hx hb dX12_rightThen_12 (by decide) c3  (fun b4 => ?_) (fun b4 => ?_)
        · have hv := hv.1 b4
          exact hX50  M _ _ _ hM hv hw (lv_sub hl [0] rfl)
        · have hv := hv.2 b4
          refine lv_aload_n hx hb dX12_rightThen_15 rfl (lv_at hl 0 rfl) ?_
          refine lv_aload_n hx hb dX12_rightThen_16 rfl (lv_at hl 0 rfl) ?_
          refine gf_X12_34 hx hb hC hw 1 (gM_1 τ ad M) rfl dX12_rightThen_17 ?_
          refine k_cVv (wq_M τ ad) hx hb hml hC hLS hA hw hl.1 (mX12_laysLine l D τ ad sA sV _ 6 aM_6 M hM _ hv) kX12_laysLine ml_X12_333 rfl (gM_1 τ ad M) rfl rfl (Nat.le_of_ble_eq_true rfl) (rm_ok (by decide) (by decide)) ⟨Nat.zero_le _, Nat.zero_le _⟩ dX12_rightThen_20 (fun M5 H locs hM hv hw => ?_)
          refine lv_aload_n hx hb dX12_rightThen_23 rfl (lv_at hl 0 rfl) ?_
          refine gf_X12_321 hx hb hC hw 1 (gM_1 τ ad M5) rfl dX12_rightThen_24 ?_
          refine r_top (fun x6 e6 => ?_)
          have g6 : iR x6 := by rw [e6]; exact hM.get (by decide) _
          have hv := hv x6 e6 g6
          refine r_if_le (tgt := 34) hx hb dX12_rightThen_27 (by decide) g6  (fun b7 => ?_) (fun b7 => ?_)
          · have hv := hv.1 b7
            refine r_iconst hx hb dX12_rightThen_34 ?_
            exact J35 _ ih _ hX50 v2 0 M5 _ _ _ hM hv hw (lv_sub hl [0, 2] rfl)
          · have hv := hv.2 b7
            refine r_iconst hx hb dX12_rightThen_30 ?_
            refine lv_goto (tgt := 35) hx hb dX12_rightThen_31 (by decide) ?_
            exact J35 _ ih _ hX50 v2 1 M5 _ _ _ hM hv hw (lv_sub hl [0, 2] rfl)
  have J50 : ∀  (M : Mem) (H : Heap) (locs : List Loc) (ls : Array Slot), MR M → qX12_rightThen_J50  Q  M → wS D A s.heap (WM τ ad M) H locs → lv_has ls 3 [(0, .ref (ad 1))] → W p l e (rmk 7 0 0) s m args below meth c H locs 0 0 (MQ below (gQi D (EQi (WM τ ad) MR Q) A) args s 0 0 A) (F0 m 50 ls []) := by
    intro  M H locs ls hM hv hw hl
    unfold qX12_rightThen_J50 at hv
    refine lv_aload_n hx hb dX12_rightThen_50 rfl (lv_at hl 0 rfl) ?_
    refine lv_aload_n hx hb dX12_rightThen_51 rfl (lv_at hl 0 rfl) ?_
    refine gf_X12_34 hx hb hC hw 1 (gM_1 τ ad M) rfl dX12_rightThen_52 ?_
    refine r_iconst hx hb dX12_rightThen_55 ?_
    refine k_cVi (wq_M τ ad) hx hb hml hC hLS hA hw hl.1 (mX12_endedBy l D τ ad sA sV _ 6 1 aM_6 (by decide) M hM _ hv) kX12_endedBy ml_X12_397 rfl (gM_1 τ ad M) rfl rfl (Nat.le_of_ble_eq_true rfl) (rm_ok (by decide) (by decide)) ⟨Nat.zero_le _, Nat.zero_le _⟩ dX12_rightThen_56 (fun x10 M10 H locs g10 hM hv hw => ?_)
    have hv := hv g10
    exact k_iret (wq_M τ ad) hx hb hr hlk hw hM g10 hv dX12_rightThen_59
  refine r_iconst hx hb dX12_rightThen_0 ?_
  refine lv_istore_n (lv' := [(1, .int (iI 1)), (0, .ref (ad 1))]) hx hb dX12_rightThen_1 rfl hl (by decide) rfl (fun ls hl => ?_)
  refine r_iconst hx hb dX12_rightThen_2 ?_
  refine lv_istore_n (lv' := [(2, .int (iI 0)), (1, .int (iI 1)), (0, .ref (ad 1))]) hx hb dX12_rightThen_3 rfl hl (by decide) rfl (fun ls hl => ?_)
  obtain ⟨n9, hv⟩ := hv
  refine L4 _ ?_ n9 1 0 M _ _ _ hM hv hw (lv_sub hl [2, 1, 0] rfl)
  · intro  M H locs ls hM hv hw hl
    exact J50  M _ _ _ hM hv hw (lv_sub hl [0] rfl)
set_option maxHeartbeats 4000000 in
set_option maxRecDepth 100000 in
theorem mX12_right (l : Launch) (D : va_G) (τ : Nat → ClassId) (ad : Nat → Nat) (sA sV : Nat → Nat) (sz : Nat)   (M : Mem) (hM : MR M) (Q : Int → Mem → Prop) (hv : qX12_right  M Q) : Met l yX12_right (lw_w yX12_right cX12_right 2 (some .int)) (rmk 8 0 0) (kPc D τ sA sV (WM τ ad M) sz [.ref (ad 1)]) (gQi D (EQi (WM τ ad) MR Q) (va_A (WM τ ad M) sz)) 0 0 (va_A (WM τ ad M) sz) := by
  refine k_met (ret := (some .int)) (Qc := gQi D (EQi (WM τ ad) MR Q)) (by decide +kernel) (Nat.le_of_ble_eq_true rfl) ?_
  intro p e s m args below meth c A ls hx hb hml hr hlk hnm hC hLS hA hw hl
  have hC : cx D τ s m args RX12 := hC
  have hl : lv_has ls 2 [(0, .ref (ad 1))] := hl
  unfold qX12_right at hv
  refine lv_aload_n hx hb dX12_right_0 rfl (lv_at hl 0 rfl) ?_
  refine r_iconst hx hb dX12_right_1 ?_
  obtain ⟨M1, e1⟩ : ∃ M1 : Mem, M1 = up2 M 1 0 0 := ⟨_, rfl⟩
  have hv := hv M1 e1
  refine pf_X12_112 (ws' := (WM τ ad M1)) hx hb hC hw 1 (gM_1 τ ad M) (Nat.le_of_ble_eq_true rfl) (by rw [e1]; exact sM_1_0 τ ad M _) dX12_right_2 (fun H locs hw => ?_)
  have hM : MR M1 := by rw [e1]; exact hM.put (by decide) (by decide)
  refine lv_aload_n hx hb dX12_right_5 rfl (lv_at hl 0 rfl) ?_
  refine k_cVv (wq_M τ ad) hx hb hml hC hLS hA hw hl.1 (mX12_copies l D τ ad sA sV _   M1 hM _ hv) kX12_copies ml_X12_390 rfl (gM_1 τ ad M1) rfl rfl (Nat.le_of_ble_eq_true rfl) (rm_ok (by decide) (by decide)) ⟨Nat.zero_le _, Nat.zero_le _⟩ dX12_right_6 (fun M2 H locs hM hv hw => ?_)
  refine lv_aload_n hx hb dX12_right_9 rfl (lv_at hl 0 rfl) ?_
  refine k_cVi (wq_M τ ad) hx hb hml hC hLS hA hw hl.1 (mX12_rightThen l D τ ad sA sV _   M2 hM _ hv) kX12_rightThen ml_X12_401 rfl (gM_1 τ ad M2) rfl rfl (Nat.le_of_ble_eq_true rfl) (rm_ok (by decide) (by decide)) ⟨Nat.zero_le _, Nat.zero_le _⟩ dX12_right_10 (fun x3 M3 H locs g3 hM hv hw => ?_)
  have hv := hv g3
  refine lv_istore_n (lv' := [(1, .int (iI x3)), (0, .ref (ad 1))]) hx hb dX12_right_13 rfl hl (by decide) rfl (fun ls hl => ?_)
  refine lv_aload_n hx hb dX12_right_14 rfl (lv_at hl 1 rfl) ?_
  refine r_iconst hx hb dX12_right_15 ?_
  obtain ⟨M4, e4⟩ : ∃ M4 : Mem, M4 = up2 M3 1 1 0 := ⟨_, rfl⟩
  have hv := hv M4 e4
  refine pf_X12_119 (ws' := (WM τ ad M4)) hx hb hC hw 1 (gM_1 τ ad M3) (Nat.le_of_ble_eq_true rfl) (by rw [e4]; exact sM_1_1 τ ad M3 _) dX12_right_16 (fun H locs hw => ?_)
  have hM : MR M4 := by rw [e4]; exact hM.put (by decide) (by decide)
  refine lv_aload_n hx hb dX12_right_19 rfl (lv_at hl 1 rfl) ?_
  refine lv_iload_n hx hb dX12_right_20 rfl (lv_at hl 0 rfl) ?_
  refine r_i2l hx hb dX12_right_21 g3 ?_
  refine k_cVv (wq_M τ ad) hx hb hml hC hLS hA hw hl.1 (mX12_enters l D τ ad sA sV _ x3 (iR_lR g3) M4 hM _ hv) kX12_enters ml_X12_358 rfl (gM_1 τ ad M4) rfl rfl (Nat.le_of_ble_eq_true rfl) (rm_ok (by decide) (by decide)) ⟨Nat.zero_le _, Nat.zero_le _⟩ dX12_right_22 (fun M5 H locs hM hv hw => ?_)
  refine lv_aload_n hx hb dX12_right_25 rfl (lv_at hl 1 rfl) ?_
  refine lv_aload_n hx hb dX12_right_26 rfl (lv_at hl 1 rfl) ?_
  refine lv_aload_n hx hb dX12_right_27 rfl (lv_at hl 1 rfl) ?_
  refine gf_X12_34 hx hb hC hw 1 (gM_1 τ ad M5) rfl dX12_right_28 ?_
  refine r_iconst hx hb dX12_right_31 ?_
  refine k_cVi (wq_M τ ad) hx hb hml hC hLS hA hw hl.1 (mX12_endedBy l D τ ad sA sV _ 6 0 aM_6 (by decide) M5 hM _ hv) kX12_endedBy ml_X12_397 rfl (gM_1 τ ad M5) rfl rfl (Nat.le_of_ble_eq_true rfl) (rm_ok (by decide) (by decide)) ⟨Nat.zero_le _, Nat.zero_le _⟩ dX12_right_32 (fun x6 M6 H locs g6 hM hv hw => ?_)
  have hv := hv g6
  refine r_i2l hx hb dX12_right_35 g6 ?_
  refine k_cVv (wq_M τ ad) hx hb hml hC hLS hA hw hl.1 (mX12_enters l D τ ad sA sV _ x6 (iR_lR g6) M6 hM _ hv) kX12_enters ml_X12_358 rfl (gM_1 τ ad M6) rfl rfl (Nat.le_of_ble_eq_true rfl) (rm_ok (by decide) (by decide)) ⟨Nat.zero_le _, Nat.zero_le _⟩ dX12_right_36 (fun M7 H locs hM hv hw => ?_)
  refine lv_iload_n hx hb dX12_right_39 rfl (lv_at hl 0 rfl) ?_
  refine k_cSi (wq_M τ ad) hx hb hml hC hLS hA hw hl.1 (mJ6_bitCount_0f7a4M l D τ ad sA sV _ x3 g3 M7 hM _ hv) kJ6_bitCount_0f7a4 ml_X12_279 rfl rfl (Nat.le_of_ble_eq_true rfl) (rm_ok (by decide) (by decide)) ⟨Nat.zero_le _, Nat.zero_le _⟩ dX12_right_40 (fun x8 M8 H locs g8 hM hv hw => ?_)
  have hv := hv g8
  exact k_iret (wq_M τ ad) hx hb hr hlk hw hM g8 hv dX12_right_43
set_option maxHeartbeats 4000000 in
set_option maxRecDepth 100000 in
theorem mX12_has (l : Launch) (D : va_G) (τ : Nat → ClassId) (ad : Nat → Nat) (sA sV : Nat → Nat) (sz : Nat) (p0 : Int) (p1 : Int) (hp0 : iR p0) (hp1 : iR p1) (M : Mem) (hM : MR M) (Q : Int → Mem → Prop) (hv : qX12_has p0 p1 M Q) : Met l yX12_has (lw_w yX12_has cX12_has 2 (some .boolean)) (rmk 1 0 0) (kPc D τ sA sV (WM τ ad M) sz [.int (iI p0), .int (iI p1)]) (gQi D (EQz (WM τ ad) MR Q) (va_A (WM τ ad M) sz)) 0 0 (va_A (WM τ ad M) sz) := by
  refine k_met (ret := (some .boolean)) (Qc := gQi D (EQz (WM τ ad) MR Q)) (by decide +kernel) (Nat.le_of_ble_eq_true rfl) ?_
  intro p e s m args below meth c A ls hx hb hml hr hlk hnm hC hLS hA hw hl
  have hC : cx D τ s m args RX12 := hC
  have hl : lv_has ls 2 [(0, .int (iI p0)), (1, .int (iI p1))] := hl
  unfold qX12_has at hv
  refine lv_iload_n hx hb dX12_has_0 rfl (lv_at hl 0 rfl) ?_
  refine lv_iload_n hx hb dX12_has_1 rfl (lv_at hl 1 rfl) ?_
  refine r_ishrF hx hb dX12_has_2 (fun x1 e1 g1 => ?_)
  have hv := hv x1 e1 g1
  refine r_iconst hx hb dX12_has_3 ?_
  refine r_iandF hx hb dX12_has_4 (fun x2 e2 g2 => ?_)
  have hv := hv x2 e2 g2
  refine r_iconst hx hb dX12_has_5 ?_
  refine r_icmp_ne (tgt := 13) hx hb dX12_has_6 (by decide) g2 (by decide) (fun b3 => ?_) (fun b3 => ?_)
  · have hv := hv.1 b3
    refine r_iconst hx hb dX12_has_13 ?_
    exact k_zret (wq_M τ ad) hx hb hr hlk hw hM (by decide) (by decide) hv dX12_has_14
  · have hv := hv.2 b3
    refine r_iconst hx hb dX12_has_9 ?_
    refine lv_goto (tgt := 14) hx hb dX12_has_10 (by decide) ?_
    exact k_zret (wq_M τ ad) hx hb hr hlk hw hM (by decide) (by decide) hv dX12_has_14
set_option maxHeartbeats 4000000 in
set_option maxRecDepth 100000 in
theorem bmX12_places (l : Launch) (D : va_G) (τ : Nat → ClassId) (ad : Nat → Nat) (sA sV : Nat → Nat) (d : Nat) (rc : Int → Int → Mem → (Mem → Prop) → Prop) (hrc_X12_places : ∀ (sz : Nat) (p1 : Int) (p2 : Int) (hp1 : iR p1) (hp2 : iR p2) (M : Mem) (hM : MR M) (Q : Mem → Prop), rc  p1 p2 M Q → Met l yX12_places (lw_w yX12_places cX12_places 5 none) (rmk (8 + d) 0 0) (kPc D τ sA sV (WM τ ad M) sz [.ref (ad 1), .int (iI p1), .int (iI p2)]) (gQv D (EQv (WM τ ad) MR Q) (va_A (WM τ ad M) sz)) 0 0 (va_A (WM τ ad M) sz)) (sz : Nat) (p1 : Int) (p2 : Int) (hp1 : iR p1) (hp2 : iR p2) (M : Mem) (hM : MR M) (Q : Mem → Prop) (hv : bX12_places rc p1 p2 M Q) : Met l yX12_places (lw_w yX12_places cX12_places 5 none) (rmk (8 + (d + 1)) 0 0) (kPc D τ sA sV (WM τ ad M) sz [.ref (ad 1), .int (iI p1), .int (iI p2)]) (gQv D (EQv (WM τ ad) MR Q) (va_A (WM τ ad M) sz)) 0 0 (va_A (WM τ ad M) sz) := by
  refine k_met (ret := none) (Qc := gQv D (EQv (WM τ ad) MR Q)) (by decide +kernel) (Nat.le_of_ble_eq_true rfl) ?_
  intro p e s m args below meth c A ls hx hb hml hr hlk hnm hC hLS hA hw hl
  have hC : cx D τ s m args RX12 := hC
  have hl : lv_has ls 5 [(0, .ref (ad 1)), (1, .int (iI p1)), (2, .int (iI p2))] := hl
  unfold bX12_places at hv
  have L123 : ∀ (n : Nat) (v3 : Int) (M : Mem) (H : Heap) (locs : List Loc) (ls : Array Slot), MR M → qX12_places_L123 rc p1 p2  Q n v3 M → wS D A s.heap (WM τ ad M) H locs → lv_has ls 5 [(0, .ref (ad 1)), (1, .int (iI p1)), (2, .int (iI p2)), (3, .int (iI v3))] → W p l e (rmk (8 + (d + 1)) 0 0) s m args below meth c H locs 0 0 (MQ below (gQv D (EQv (WM τ ad) MR Q) A) args s 0 0 A) (F0 m 123 ls []) := by
    intro n
    induction n with
    | zero => intro v3 M H locs ls hM hv; rw [qX12_places_L123] at hv; exact hv.elim
    | succ n ih =>
      intro v3 M H locs ls hM hv hw hl
      rw [qX12_places_L123] at hv
      refine lv_iload_n hx hb dX12_places_123 rfl (lv_at hl 3 rfl) ?_
      refine lv_aload_n hx hb dX12_places_124 rfl (lv_at hl 0 rfl) ?_
      refine k_cVi (wq_M τ ad) hx hb hml hC hLS hA hw hl.1 (mX12_gate l D τ ad sA sV _   M hM _ hv) kX12_gate ml_X12_192 rfl (gM_1 τ ad M) rfl rfl (Nat.le_of_ble_eq_true rfl) (rm_ok (by omega) (by decide)) ⟨Nat.zero_le _, Nat.zero_le _⟩ dX12_places_125 (fun x8 M8 H locs g8 hM hv hw => ?_)
      have hv := hv g8
      obtain ⟨c9, hv⟩ := hv
      refine r_icmp_ge (tgt := 182) hx hb dX12_places_128 (by decide) c9 g8 (fun b10 => ?_) (fun b10 => ?_)
      · have hv := hv.1 b10
        exact k_vret (wq_M τ ad) hx hb hr hlk hw hM hv dX12_places_182
      · have hv := hv.2 b10
        refine lv_aload_n hx hb dX12_places_131 rfl (lv_at hl 0 rfl) ?_
        refine lv_aload_n hx hb dX12_places_132 rfl (lv_at hl 0 rfl) ?_
        refine gf_X12_31 hx hb hC hw 1 (gM_1 τ ad M8) rfl dX12_places_133 ?_
        refine lv_iload_n hx hb dX12_places_136 rfl (lv_at hl 3 rfl) ?_
        refine k_cVi (wq_M τ ad) hx hb hml hC hLS hA hw hl.1 (mX12_onCell l D τ ad sA sV _ 5 v3 aM_5 c9 M8 hM _ hv) kX12_onCell ml_X12_195 rfl (gM_1 τ ad M8) rfl rfl (Nat.le_of_ble_eq_true rfl) (rm_ok (by omega) (by decide)) ⟨Nat.zero_le _, Nat.zero_le _⟩ dX12_places_137 (fun x11 M11 H locs g11 hM hv hw => ?_)
        have hv := hv g11
        refine lv_istore (lv' := [(4, .int (iI x11)), (0, .ref (ad 1)), (1, .int (iI p1)), (2, .int (iI p2)), (3, .int (iI v3))]) hx hb dX12_places_140 hl (by decide) rfl (fun ls hl => ?_)
        refine lv_iload hx hb dX12_places_142 (lv_at hl 0 rfl) ?_
        refine r_if_lt (tgt := 176) hx hb dX12_places_144 (by decide) g11  (fun b12 => ?_) (fun b12 => ?_)
        · have hv := hv.1 b12
          refine r_iinc (v := (v3 + 1)) (lv' := [(3, .int (iI (v3 + 1))), (4, .int (iI x11)), (0, .ref (ad 1)), (1, .int (iI p1)), (2, .int (iI p2))]) hx hb dX12_places_176 hl (k := 4) rfl rfl (by decide) rfl (fun ls hl => ?_)
          refine lv_goto (tgt := 123) hx hb dX12_places_179 (by decide) ?_
          exact ih (v3 + 1) M11 _ _ _ hM hv hw (lv_sub hl [2, 3, 4, 0] rfl)
        · have hv := hv.2 b12
          refine lv_iload_n hx hb dX12_places_147 rfl (lv_at hl 3 rfl) ?_
          refine lv_iload hx hb dX12_places_148 (lv_at hl 0 rfl) ?_
          refine k_cSz (wq_M τ ad) hx hb hml hC hLS hA hw hl.1 (mX12_has l D τ ad sA sV _ p2 x11 hp2 g11 M11 hM _ hv) kX12_has ml_X12_411 rfl rfl (Nat.le_of_ble_eq_true rfl) (rm_ok (by omega) (by decide)) ⟨Nat.zero_le _, Nat.zero_le _⟩ dX12_places_150 (fun x13 M13 H locs g13 z13 hM hv hw => ?_)
          have hv := hv g13 z13
          refine r_if_ne (tgt := 176) hx hb dX12_places_153 (by decide) g13  (fun b14 => ?_) (fun b14 => ?_)
          · have hv := hv.1 b14
            refine r_iinc (v := (v3 + 1)) (lv' := [(3, .int (iI (v3 + 1))), (4, .int (iI x11)), (0, .ref (ad 1)), (1, .int (iI p1)), (2, .int (iI p2))]) hx hb dX12_places_176 hl (k := 4) rfl rfl (by decide) rfl (fun ls hl => ?_)
            refine lv_goto (tgt := 123) hx hb dX12_places_179 (by decide) ?_
            exact ih (v3 + 1) M13 _ _ _ hM hv hw (lv_sub hl [2, 3, 4, 0] rfl)
          · have hv := hv.2 b14
            refine lv_aload_n hx hb dX12_places_156 rfl (lv_at hl 1 rfl) ?_
            refine gf_X12_82 hx hb hC hw 1 (gM_1 τ ad M13) rfl dX12_places_157 ?_
            refine lv_iload_n hx hb dX12_places_160 rfl (lv_at hl 2 rfl) ?_
            refine lv_iload_n hx hb dX12_places_161 rfl (lv_at hl 4 rfl) ?_
            obtain ⟨c15, hv⟩ := hv
            obtain ⟨c16, hv⟩ := hv
            obtain ⟨M17, e17⟩ : ∃ M17 : Mem, M17 = up2 M13 22 p1 v3 := ⟨_, rfl⟩
            have hv := hv M17 e17
            refine r_iast (ws' := (WM τ ad M17)) hx hb hC hw 22 (gI_M aM_22 τ ad M13) c15 c16 (by decide) (by rw [e17]; exact sI_M aM_22 τ ad M13 _ _) dX12_places_162 (fun H locs hw => ?_)
            have hM : MR M17 := by rw [e17]; exact hM.put aM_22.pos c9
            refine lv_aload_n hx hb dX12_places_163 rfl (lv_at hl 1 rfl) ?_
            refine lv_iload_n hx hb dX12_places_164 rfl (lv_at hl 2 rfl) ?_
            refine r_iconst hx hb dX12_places_165 ?_
            refine r_iadd (z := (p1 + 1)) hx hb dX12_places_166 rfl ?_
            refine lv_iload_n hx hb dX12_places_167 rfl (lv_at hl 3 rfl) ?_
            refine r_iconst hx hb dX12_places_168 ?_
            refine lv_iload hx hb dX12_places_169 (lv_at hl 0 rfl) ?_
            refine r_ishlF hx hb dX12_places_171 (fun x18 e18 g18 => ?_)
            have hv := hv x18 e18 g18
            refine r_iorF hx hb dX12_places_172 (fun x19 e19 g19 => ?_)
            have hv := hv x19 e19 g19
            obtain ⟨c20, hv⟩ := hv
            refine k_cVv (wq_M τ ad) hx hb hml hC hLS hA hw hl.1 (hrc_X12_places _ (p1 + 1) x19 c20 g19 M17 hM _ hv) kX12_places ml_X12_407 rfl (gM_1 τ ad M17) rfl rfl (Nat.le_of_ble_eq_true rfl) (rm_ok (by omega) (by decide)) ⟨Nat.zero_le _, Nat.zero_le _⟩ dX12_places_173 (fun M21 H locs hM hv hw => ?_)
            refine r_iinc (v := (v3 + 1)) (lv' := [(3, .int (iI (v3 + 1))), (4, .int (iI x11)), (0, .ref (ad 1)), (1, .int (iI p1)), (2, .int (iI p2))]) hx hb dX12_places_176 hl (k := 4) rfl rfl (by decide) rfl (fun ls hl => ?_)
            refine lv_goto (tgt := 123) hx hb dX12_places_179 (by decide) ?_
            exact ih (v3 + 1) M21 _ _ _ hM hv hw (lv_sub hl [2, 3, 4, 0] rfl)
  have L14 : ∀ (X40 : Mem → Prop), (∀  (M : Mem) (H : Heap) (locs : List Loc) (ls : Array Slot), MR M → X40  M → wS D A s.heap (WM τ ad M) H locs → lv_has ls 5 [(0, .ref (ad 1))] → W p l e (rmk (8 + (d + 1)) 0 0) s m args below meth c H locs 0 0 (MQ below (gQv D (EQv (WM τ ad) MR Q) A) args s 0 0 A) (F0 m 40 ls [])) → ∀ (n : Nat) (v3 : Int) (M : Mem) (H : Heap) (locs : List Loc) (ls : Array Slot), MR M → qX12_places_L14 rc p1 p2 X40 Q n v3 M → wS D A s.heap (WM τ ad M) H locs → lv_has ls 5 [(0, .ref (ad 1)), (3, .int (iI v3))] → W p l e (rmk (8 + (d + 1)) 0 0) s m args below meth c H locs 0 0 (MQ below (gQv D (EQv (WM τ ad) MR Q) A) args s 0 0 A) (F0 m 14 ls []) := by
    intro X40 hX40 n
    induction n with
    | zero => intro v3 M H locs ls hM hv; rw [qX12_places_L14] at hv; exact hv.elim
    | succ n ih =>
      intro v3 M H locs ls hM hv hw hl
      rw [qX12_places_L14] at hv
      refine lv_iload_n hx hb dX12_places_14 rfl (lv_at hl 1 rfl) ?_
      refine lv_aload_n hx hb dX12_places_15 rfl (lv_at hl 0 rfl) ?_
      refine gf_X12_122 hx hb hC hw 1 (gM_1 τ ad M) rfl dX12_places_16 ?_
      refine r_top (fun x26 e26 => ?_)
      have g26 : iR x26 := by rw [e26]; exact hM.get (by decide) _
      have hv := hv x26 e26 g26
      obtain ⟨c27, hv⟩ := hv
      refine r_icmp_ge (tgt := 40) hx hb dX12_places_19 (by decide) c27 g26 (fun b28 => ?_) (fun b28 => ?_)
      · have hv := hv.1 b28
        exact hX40  M _ _ _ hM hv hw (lv_sub hl [0] rfl)
      · have hv := hv.2 b28
        refine lv_aload_n hx hb dX12_places_22 rfl (lv_at hl 0 rfl) ?_
        refine gf_X12_34 hx hb hC hw 1 (gM_1 τ ad M) rfl dX12_places_23 ?_
        refine lv_iload_n hx hb dX12_places_26 rfl (lv_at hl 1 rfl) ?_
        refine lv_aload_n hx hb dX12_places_27 rfl (lv_at hl 0 rfl) ?_
        refine gf_X12_82 hx hb hC hw 1 (gM_1 τ ad M) rfl dX12_places_28 ?_
        refine lv_iload_n hx hb dX12_places_31 rfl (lv_at hl 1 rfl) ?_
        obtain ⟨c29, hv⟩ := hv
        obtain ⟨c30, hv⟩ := hv
        refine r_iald hx hb hC hw 22 (gI_M aM_22 τ ad M) c29 c30 (by decide) dX12_places_32 ?_
        refine r_top (fun x31 e31 => ?_)
        have g31 : iR x31 := by rw [e31]; exact hM.get aM_22.pos _
        have hv := hv x31 e31 g31
        obtain ⟨c32, hv⟩ := hv
        obtain ⟨c33, hv⟩ := hv
        obtain ⟨M34, e34⟩ : ∃ M34 : Mem, M34 = up2 M 6 v3 x31 := ⟨_, rfl⟩
        have hv := hv M34 e34
        refine r_iast (ws' := (WM τ ad M34)) hx hb hC hw 6 (gI_M aM_6 τ ad M) c32 c33 (by decide) (by rw [e34]; exact sI_M aM_6 τ ad M _ _) dX12_places_33 (fun H locs hw => ?_)
        have hM : MR M34 := by rw [e34]; exact hM.put aM_6.pos g31
        refine r_iinc (v := (v3 + 1)) (lv' := [(3, .int (iI (v3 + 1))), (0, .ref (ad 1))]) hx hb dX12_places_34 hl (k := 1) rfl rfl (by decide) rfl (fun ls hl => ?_)
        refine lv_goto (tgt := 14) hx hb dX12_places_37 (by decide) ?_
        exact ih (v3 + 1) M34 _ _ _ hM hv hw (lv_sub hl [1, 0] rfl)
  have L64 : ∀ (n : Nat) (v4 : Int) (M : Mem) (H : Heap) (locs : List Loc) (ls : Array Slot), MR M → qX12_places_L64 rc p1 p2  Q n v4 M → wS D A s.heap (WM τ ad M) H locs → lv_has ls 5 [(0, .ref (ad 1)), (4, .int (iI v4))] → W p l e (rmk (8 + (d + 1)) 0 0) s m args below meth c H locs 0 0 (MQ below (gQv D (EQv (WM τ ad) MR Q) A) args s 0 0 A) (F0 m 64 ls []) := by
    intro n
    induction n with
    | zero => intro v4 M H locs ls hM hv; rw [qX12_places_L64] at hv; exact hv.elim
    | succ n ih =>
      intro v4 M H locs ls hM hv hw hl
      rw [qX12_places_L64] at hv
      refine lv_iload hx hb dX12_places_64 (lv_at hl 1 rfl) ?_
      refine lv_aload_n hx hb dX12_places_66 rfl (lv_at hl 0 rfl) ?_
      refine gf_X12_122 hx hb hC hw 1 (gM_1 τ ad M) rfl dX12_places_67 ?_
      refine r_top (fun x41 e41 => ?_)
      have g41 : iR x41 := by rw [e41]; exact hM.get (by decide) _
      have hv := hv x41 e41 g41
      obtain ⟨c42, hv⟩ := hv
      refine r_icmp_ge (tgt := 93) hx hb dX12_places_70 (by decide) c42 g41 (fun b43 => ?_) (fun b43 => ?_)
      · have hv := hv.1 b43
        exact k_vret (wq_M τ ad) hx hb hr hlk hw hM hv dX12_places_93
      · have hv := hv.2 b43
        refine lv_aload_n hx hb dX12_places_73 rfl (lv_at hl 0 rfl) ?_
        refine gf_X12_85 hx hb hC hw 1 (gM_1 τ ad M) rfl dX12_places_74 ?_
        refine lv_iload hx hb dX12_places_77 (lv_at hl 1 rfl) ?_
        refine lv_aload_n hx hb dX12_places_79 rfl (lv_at hl 0 rfl) ?_
        refine gf_X12_82 hx hb hC hw 1 (gM_1 τ ad M) rfl dX12_places_80 ?_
        refine lv_iload hx hb dX12_places_83 (lv_at hl 1 rfl) ?_
        obtain ⟨c44, hv⟩ := hv
        obtain ⟨c45, hv⟩ := hv
        refine r_iald hx hb hC hw 22 (gI_M aM_22 τ ad M) c44 c45 (by decide) dX12_places_85 ?_
        refine r_top (fun x46 e46 => ?_)
        have g46 : iR x46 := by rw [e46]; exact hM.get aM_22.pos _
        have hv := hv x46 e46 g46
        obtain ⟨M47, e47⟩ : ∃ M47 : Mem, M47 = up2 M 23 v4 x46 := ⟨_, rfl⟩
        have hv := hv M47 e47
        refine r_iast (ws' := (WM τ ad M47)) hx hb hC hw 23 (gI_M aM_23 τ ad M) c44 c45 (by decide) (by rw [e47]; exact sI_M aM_23 τ ad M _ _) dX12_places_86 (fun H locs hw => ?_)
        have hM : MR M47 := by rw [e47]; exact hM.put aM_23.pos g46
        refine r_iinc (v := (v4 + 1)) (lv' := [(4, .int (iI (v4 + 1))), (0, .ref (ad 1))]) hx hb dX12_places_87 hl (k := 1) rfl rfl (by decide) rfl (fun ls hl => ?_)
        refine lv_goto (tgt := 64) hx hb dX12_places_90 (by decide) ?_
        exact ih (v4 + 1) M47 _ _ _ hM hv hw (lv_sub hl [1, 0] rfl)
  refine lv_iload_n hx hb dX12_places_0 rfl (lv_at hl 1 rfl) ?_
  refine lv_aload_n hx hb dX12_places_1 rfl (lv_at hl 0 rfl) ?_
  refine gf_X12_122 hx hb hC hw 1 (gM_1 τ ad M) rfl dX12_places_2 ?_
  refine r_top (fun x1 e1 => ?_)
  have g1 : iR x1 := by rw [e1]; exact hM.get (by decide) _
  have hv := hv x1 e1 g1
  refine r_icmp_ne (tgt := 94) hx hb dX12_places_5 (by decide) hp1 g1 (fun b2 => ?_) (fun b2 => ?_)
  · have hv := hv.1 b2
    refine lv_aload_n hx hb dX12_places_94 rfl (lv_at hl 0 rfl) ?_
    refine gf_X12_82 hx hb hC hw 1 (gM_1 τ ad M) rfl dX12_places_95 ?_
    refine lv_iload_n hx hb dX12_places_98 rfl (lv_at hl 1 rfl) ?_
    refine r_iconst hx hb dX12_places_99 ?_
    obtain ⟨c3, hv⟩ := hv
    obtain ⟨c4, hv⟩ := hv
    obtain ⟨M5, e5⟩ : ∃ M5 : Mem, M5 = up2 M 22 p1 (-1) := ⟨_, rfl⟩
    have hv := hv M5 e5
    refine r_iast (ws' := (WM τ ad M5)) hx hb hC hw 22 (gI_M aM_22 τ ad M) c3 c4 (by decide) (by rw [e5]; exact sI_M aM_22 τ ad M _ _) dX12_places_100 (fun H locs hw => ?_)
    have hM : MR M5 := by rw [e5]; exact hM.put aM_22.pos (by decide)
    refine lv_aload_n hx hb dX12_places_101 rfl (lv_at hl 0 rfl) ?_
    refine gf_X12_31 hx hb hC hw 1 (gM_1 τ ad M5) rfl dX12_places_102 ?_
    refine lv_iload_n hx hb dX12_places_105 rfl (lv_at hl 1 rfl) ?_
    refine k_cSz (wq_M τ ad) hx hb hml hC hLS hA hw hl.1 (mX12_isOn l D τ ad sA sV _ 5 p1 aM_5 hp1 M5 hM _ hv) kX12_isOn ml_X12_266 rfl rfl (Nat.le_of_ble_eq_true rfl) (rm_ok (by omega) (by decide)) ⟨Nat.zero_le _, Nat.zero_le _⟩ dX12_places_106 (fun x6 M6 H locs g6 z6 hM hv hw => ?_)
    have hv := hv g6 z6
    refine r_if_ne (tgt := 121) hx hb dX12_places_109 (by decide) g6  (fun b7 => ?_) (fun b7 => ?_)
    · have hv := hv.1 b7
      refine r_iconst hx hb dX12_places_121 ?_
      refine lv_istore_n (lv' := [(3, .int (iI 0)), (0, .ref (ad 1)), (1, .int (iI p1)), (2, .int (iI p2))]) hx hb dX12_places_122 rfl hl (by decide) rfl (fun ls hl => ?_)
      obtain ⟨n22, hv⟩ := hv
      refine L123  n22 0 M6 _ _ _ hM hv hw (lv_sub hl [1, 2, 3, 0] rfl)
    · have hv := hv.2 b7
      refine lv_aload_n hx hb dX12_places_112 rfl (lv_at hl 0 rfl) ?_
      refine lv_iload_n hx hb dX12_places_113 rfl (lv_at hl 1 rfl) ?_
      refine r_iconst hx hb dX12_places_114 ?_
      refine r_iadd (z := (p1 + 1)) hx hb dX12_places_115 rfl ?_
      refine lv_iload_n hx hb dX12_places_116 rfl (lv_at hl 2 rfl) ?_
      obtain ⟨c23, hv⟩ := hv
      refine k_cVv (wq_M τ ad) hx hb hml hC hLS hA hw hl.1 (hrc_X12_places _ (p1 + 1) p2 c23 hp2 M6 hM _ hv) kX12_places ml_X12_407 rfl (gM_1 τ ad M6) rfl rfl (Nat.le_of_ble_eq_true rfl) (rm_ok (by omega) (by decide)) ⟨Nat.zero_le _, Nat.zero_le _⟩ dX12_places_117 (fun M24 H locs hM hv hw => ?_)
      exact k_vret (wq_M τ ad) hx hb hr hlk hw hM hv dX12_places_120
  · have hv := hv.2 b2
    refine lv_aload_n hx hb dX12_places_8 rfl (lv_at hl 0 rfl) ?_
    refine k_cVv (wq_M τ ad) hx hb hml hC hLS hA hw hl.1 (mX12_copies l D τ ad sA sV _   M hM _ hv) kX12_copies ml_X12_390 rfl (gM_1 τ ad M) rfl rfl (Nat.le_of_ble_eq_true rfl) (rm_ok (by omega) (by decide)) ⟨Nat.zero_le _, Nat.zero_le _⟩ dX12_places_9 (fun M25 H locs hM hv hw => ?_)
    refine r_iconst hx hb dX12_places_12 ?_
    refine lv_istore_n (lv' := [(3, .int (iI 0)), (0, .ref (ad 1)), (1, .int (iI p1)), (2, .int (iI p2))]) hx hb dX12_places_13 rfl hl (by decide) rfl (fun ls hl => ?_)
    obtain ⟨n35, hv⟩ := hv
    refine L14 _ ?_ n35 0 M25 _ _ _ hM hv hw (lv_sub hl [1, 0] rfl)
    · intro  M H locs ls hM hv hw hl
      refine lv_aload_n hx hb dX12_places_40 rfl (lv_at hl 0 rfl) ?_
      refine k_cVi (wq_M τ ad) hx hb hml hC hLS hA hw hl.1 (mX12_rightThen l D τ ad sA sV _   M hM _ hv) kX12_rightThen ml_X12_401 rfl (gM_1 τ ad M) rfl rfl (Nat.le_of_ble_eq_true rfl) (rm_ok (by omega) (by decide)) ⟨Nat.zero_le _, Nat.zero_le _⟩ dX12_places_41 (fun x36 M36 H locs g36 hM hv hw => ?_)
      have hv := hv g36
      refine k_cSi (wq_M τ ad) hx hb hml hC hLS hA hw hl.1 (mJ6_bitCount_0f7a4M l D τ ad sA sV _ x36 g36 M36 hM _ hv) kJ6_bitCount_0f7a4 ml_X12_279 rfl rfl (Nat.le_of_ble_eq_true rfl) (rm_ok (by omega) (by decide)) ⟨Nat.zero_le _, Nat.zero_le _⟩ dX12_places_44 (fun x37 M37 H locs g37 hM hv hw => ?_)
      have hv := hv g37
      refine lv_istore_n (lv' := [(3, .int (iI x37)), (0, .ref (ad 1))]) hx hb dX12_places_47 rfl hl (by decide) rfl (fun ls hl => ?_)
      refine lv_iload_n hx hb dX12_places_48 rfl (lv_at hl 0 rfl) ?_
      refine lv_aload_n hx hb dX12_places_49 rfl (lv_at hl 1 rfl) ?_
      refine gf_X12_404 hx hb hC hw 1 (gM_1 τ ad M37) rfl dX12_places_50 ?_
      refine r_top (fun x38 e38 => ?_)
      have g38 : iR x38 := by rw [e38]; exact hM.get (by decide) _
      have hv := hv x38 e38 g38
      refine r_icmp_le (tgt := 93) hx hb dX12_places_53 (by decide) g37 g38 (fun b39 => ?_) (fun b39 => ?_)
      · have hv := hv.1 b39
        exact k_vret (wq_M τ ad) hx hb hr hlk hw hM hv dX12_places_93
      · have hv := hv.2 b39
        refine lv_aload_n hx hb dX12_places_56 rfl (lv_at hl 1 rfl) ?_
        refine lv_iload_n hx hb dX12_places_57 rfl (lv_at hl 0 rfl) ?_
        obtain ⟨M40, e40⟩ : ∃ M40 : Mem, M40 = up2 M37 1 42 x37 := ⟨_, rfl⟩
        have hv := hv M40 e40
        refine pf_X12_404 (ws' := (WM τ ad M40)) hx hb hC hw 1 (gM_1 τ ad M37) (Nat.le_of_ble_eq_true rfl) (by rw [e40]; exact sM_1_42 τ ad M37 _) dX12_places_58 (fun H locs hw => ?_)
        have hM : MR M40 := by rw [e40]; exact hM.put (by decide) g37
        refine r_iconst hx hb dX12_places_61 ?_
        refine lv_istore (lv' := [(4, .int (iI 0)), (3, .int (iI x37)), (0, .ref (ad 1))]) hx hb dX12_places_62 hl (by decide) rfl (fun ls hl => ?_)
        obtain ⟨n48, hv⟩ := hv
        refine L64  n48 0 M40 _ _ _ hM hv hw (lv_sub hl [2, 0] rfl)
theorem mX12_places (l : Launch) (D : va_G) (τ : Nat → ClassId) (ad : Nat → Nat) (sA sV : Nat → Nat) (d : Nat) : ∀ (sz : Nat) (p1 : Int) (p2 : Int) (hp1 : iR p1) (hp2 : iR p2) (M : Mem) (hM : MR M) (Q : Mem → Prop) (hv : qX12_places d p1 p2 M Q), Met l yX12_places (lw_w yX12_places cX12_places 5 none) (rmk (8 + d) 0 0) (kPc D τ sA sV (WM τ ad M) sz [.ref (ad 1), .int (iI p1), .int (iI p2)]) (gQv D (EQv (WM τ ad) MR Q) (va_A (WM τ ad M) sz)) 0 0 (va_A (WM τ ad M) sz) := by
  induction d with
  | zero => intro sz p1 p2 hp1 hp2 M hM Q hv; exact hv.elim
  | succ d ih => intro sz p1 p2 hp1 hp2 M hM Q hv; exact bmX12_places l D τ ad sA sV d (qX12_places d) ih sz p1 p2 hp1 hp2 M hM Q hv
set_option maxHeartbeats 4000000 in
set_option maxRecDepth 100000 in
theorem mX12_order (l : Launch) (D : va_G) (τ : Nat → ClassId) (ad : Nat → Nat) (sA sV : Nat → Nat) (sz : Nat)   (M : Mem) (hM : MR M) (Q : Int → Mem → Prop) (hv : qX12_order  M Q) : Met l yX12_order (lw_w yX12_order cX12_order 2 (some .int)) (rmk 17 0 0) (kPc D τ sA sV (WM τ ad M) sz [.ref (ad 1)]) (gQi D (EQi (WM τ ad) MR Q) (va_A (WM τ ad M) sz)) 0 0 (va_A (WM τ ad M) sz) := by
  refine k_met (ret := (some .int)) (Qc := gQi D (EQi (WM τ ad) MR Q)) (by decide +kernel) (Nat.le_of_ble_eq_true rfl) ?_
  intro p e s m args below meth c A ls hx hb hml hr hlk hnm hC hLS hA hw hl
  have hC : cx D τ s m args RX12 := hC
  have hl : lv_has ls 2 [(0, .ref (ad 1))] := hl
  unfold qX12_order at hv
  have L23 : ∀ (n : Nat) (v1 : Int) (M : Mem) (H : Heap) (locs : List Loc) (ls : Array Slot), MR M → qX12_order_L23   Q n v1 M → wS D A s.heap (WM τ ad M) H locs → lv_has ls 2 [(0, .ref (ad 1)), (1, .int (iI v1))] → W p l e (rmk 17 0 0) s m args below meth c H locs 0 0 (MQ below (gQi D (EQi (WM τ ad) MR Q) A) args s 0 0 A) (F0 m 23 ls []) := by
    intro n
    induction n with
    | zero => intro v1 M H locs ls hM hv; rw [qX12_order_L23] at hv; exact hv.elim
    | succ n ih =>
      intro v1 M H locs ls hM hv hw hl
      rw [qX12_order_L23] at hv
      refine lv_iload_n hx hb dX12_order_23 rfl (lv_at hl 1 rfl) ?_
      refine lv_aload_n hx hb dX12_order_24 rfl (lv_at hl 0 rfl) ?_
      refine gf_X12_122 hx hb hC hw 1 (gM_1 τ ad M) rfl dX12_order_25 ?_
      refine r_top (fun x6 e6 => ?_)
      have g6 : iR x6 := by rw [e6]; exact hM.get (by decide) _
      have hv := hv x6 e6 g6
      obtain ⟨c7, hv⟩ := hv
      refine r_icmp_ge (tgt := 59) hx hb dX12_order_28 (by decide) c7 g6 (fun b8 => ?_) (fun b8 => ?_)
      · have hv := hv.1 b8
        refine lv_aload_n hx hb dX12_order_59 rfl (lv_at hl 0 rfl) ?_
        refine gf_X12_404 hx hb hC hw 1 (gM_1 τ ad M) rfl dX12_order_60 ?_
        refine r_top (fun x9 e9 => ?_)
        have g9 : iR x9 := by rw [e9]; exact hM.get (by decide) _
        have hv := hv x9 e9 g9
        exact k_iret (wq_M τ ad) hx hb hr hlk hw hM g9 hv dX12_order_63
      · have hv := hv.2 b8
        refine lv_aload_n hx hb dX12_order_31 rfl (lv_at hl 0 rfl) ?_
        refine gf_X12_31 hx hb hC hw 1 (gM_1 τ ad M) rfl dX12_order_32 ?_
        refine lv_iload_n hx hb dX12_order_35 rfl (lv_at hl 1 rfl) ?_
        refine k_cSz (wq_M τ ad) hx hb hml hC hLS hA hw hl.1 (mX12_isOn l D τ ad sA sV _ 5 v1 aM_5 c7 M hM _ hv) kX12_isOn ml_X12_266 rfl rfl (Nat.le_of_ble_eq_true rfl) (rm_ok (by decide) (by decide)) ⟨Nat.zero_le _, Nat.zero_le _⟩ dX12_order_36 (fun x10 M10 H locs g10 z10 hM hv hw => ?_)
        have hv := hv g10 z10
        refine r_if_eq (tgt := 53) hx hb dX12_order_39 (by decide) g10  (fun b11 => ?_) (fun b11 => ?_)
        · have hv := hv.1 b11
          refine r_iinc (v := (v1 + 1)) (lv' := [(1, .int (iI (v1 + 1))), (0, .ref (ad 1))]) hx hb dX12_order_53 hl (k := 1) rfl rfl (by decide) rfl (fun ls hl => ?_)
          refine lv_goto (tgt := 23) hx hb dX12_order_56 (by decide) ?_
          exact ih (v1 + 1) M10 _ _ _ hM hv hw (lv_sub hl [1, 0] rfl)
        · have hv := hv.2 b11
          refine lv_aload_n hx hb dX12_order_42 rfl (lv_at hl 0 rfl) ?_
          refine lv_aload_n hx hb dX12_order_43 rfl (lv_at hl 0 rfl) ?_
          refine gf_X12_85 hx hb hC hw 1 (gM_1 τ ad M10) rfl dX12_order_44 ?_
          refine lv_iload_n hx hb dX12_order_47 rfl (lv_at hl 1 rfl) ?_
          obtain ⟨c12, hv⟩ := hv
          obtain ⟨c13, hv⟩ := hv
          refine r_iald hx hb hC hw 23 (gI_M aM_23 τ ad M10) c12 c13 (by decide) dX12_order_48 ?_
          refine r_top (fun x14 e14 => ?_)
          have g14 : iR x14 := by rw [e14]; exact hM.get aM_23.pos _
          have hv := hv x14 e14 g14
          refine r_i2l hx hb dX12_order_49 g14 ?_
          refine k_cVv (wq_M τ ad) hx hb hml hC hLS hA hw hl.1 (mX12_enters l D τ ad sA sV _ x14 (iR_lR g14) M10 hM _ hv) kX12_enters ml_X12_358 rfl (gM_1 τ ad M10) rfl rfl (Nat.le_of_ble_eq_true rfl) (rm_ok (by decide) (by decide)) ⟨Nat.zero_le _, Nat.zero_le _⟩ dX12_order_50 (fun M15 H locs hM hv hw => ?_)
          refine r_iinc (v := (v1 + 1)) (lv' := [(1, .int (iI (v1 + 1))), (0, .ref (ad 1))]) hx hb dX12_order_53 hl (k := 1) rfl rfl (by decide) rfl (fun ls hl => ?_)
          refine lv_goto (tgt := 23) hx hb dX12_order_56 (by decide) ?_
          exact ih (v1 + 1) M15 _ _ _ hM hv hw (lv_sub hl [1, 0] rfl)
  refine lv_aload_n hx hb dX12_order_0 rfl (lv_at hl 0 rfl) ?_
  refine r_iconst hx hb dX12_order_1 ?_
  obtain ⟨M1, e1⟩ : ∃ M1 : Mem, M1 = up2 M 1 0 0 := ⟨_, rfl⟩
  have hv := hv M1 e1
  refine pf_X12_112 (ws' := (WM τ ad M1)) hx hb hC hw 1 (gM_1 τ ad M) (Nat.le_of_ble_eq_true rfl) (by rw [e1]; exact sM_1_0 τ ad M _) dX12_order_2 (fun H locs hw => ?_)
  have hM : MR M1 := by rw [e1]; exact hM.put (by decide) (by decide)
  refine lv_aload_n hx hb dX12_order_5 rfl (lv_at hl 0 rfl) ?_
  refine r_iconst hx hb dX12_order_6 ?_
  obtain ⟨M2, e2⟩ : ∃ M2 : Mem, M2 = up2 M1 1 42 (-1) := ⟨_, rfl⟩
  have hv := hv M2 e2
  refine pf_X12_404 (ws' := (WM τ ad M2)) hx hb hC hw 1 (gM_1 τ ad M1) (Nat.le_of_ble_eq_true rfl) (by rw [e2]; exact sM_1_42 τ ad M1 _) dX12_order_7 (fun H locs hw => ?_)
  have hM : MR M2 := by rw [e2]; exact hM.put (by decide) (by decide)
  refine lv_aload_n hx hb dX12_order_10 rfl (lv_at hl 0 rfl) ?_
  refine r_iconst hx hb dX12_order_11 ?_
  refine r_iconst hx hb dX12_order_12 ?_
  obtain ⟨d4, hd4, hv⟩ := hv
  refine k_cVv (wq_M τ ad) hx hb hml hC hLS hA hw hl.1 (mX12_places l D τ ad sA sV d4 _ 0 0 (by decide) (by decide) M2 hM _ hv) kX12_places ml_X12_407 rfl (gM_1 τ ad M2) rfl rfl (Nat.le_of_ble_eq_true rfl) (rm_ok (by omega) (by decide)) ⟨Nat.zero_le _, Nat.zero_le _⟩ dX12_order_13 (fun M3 H locs hM hv hw => ?_)
  refine lv_aload_n hx hb dX12_order_16 rfl (lv_at hl 0 rfl) ?_
  refine r_iconst hx hb dX12_order_17 ?_
  obtain ⟨M5, e5⟩ : ∃ M5 : Mem, M5 = up2 M3 1 1 0 := ⟨_, rfl⟩
  have hv := hv M5 e5
  refine pf_X12_119 (ws' := (WM τ ad M5)) hx hb hC hw 1 (gM_1 τ ad M3) (Nat.le_of_ble_eq_true rfl) (by rw [e5]; exact sM_1_1 τ ad M3 _) dX12_order_18 (fun H locs hw => ?_)
  have hM : MR M5 := by rw [e5]; exact hM.put (by decide) (by decide)
  refine r_iconst hx hb dX12_order_21 ?_
  refine lv_istore_n (lv' := [(1, .int (iI 0)), (0, .ref (ad 1))]) hx hb dX12_order_22 rfl hl (by decide) rfl (fun ls hl => ?_)
  obtain ⟨n16, hv⟩ := hv
  refine L23  n16 0 M5 _ _ _ hM hv hw (lv_sub hl [1, 0] rfl)
set_option maxHeartbeats 4000000 in
set_option maxRecDepth 100000 in
theorem mX12_stands (l : Launch) (D : va_G) (τ : Nat → ClassId) (ad : Nat → Nat) (sA sV : Nat → Nat) (sz : Nat) (p1 : Int) (hp1 : iR p1) (M : Mem) (hM : MR M) (Q : Int → Mem → Prop) (hv : qX12_stands p1 M Q) : Met l yX12_stands (lw_w yX12_stands cX12_stands 5 (some .int)) (rmk 8 0 0) (kPc D τ sA sV (WM τ ad M) sz [.ref (ad 1), .int (iI p1)]) (gQi D (EQi (WM τ ad) MR Q) (va_A (WM τ ad M) sz)) 0 0 (va_A (WM τ ad M) sz) := by
  refine k_met (ret := (some .int)) (Qc := gQi D (EQi (WM τ ad) MR Q)) (by decide +kernel) (Nat.le_of_ble_eq_true rfl) ?_
  intro p e s m args below meth c A ls hx hb hml hr hlk hnm hC hLS hA hw hl
  have hC : cx D τ s m args RX12 := hC
  have hl : lv_has ls 5 [(0, .ref (ad 1)), (1, .int (iI p1))] := hl
  unfold qX12_stands at hv
  have L42 : ∀ (X95 : Int → Int → Mem → Prop), (∀ (v2 : Int) (v3 : Int) (M : Mem) (H : Heap) (locs : List Loc) (ls : Array Slot), MR M → X95 v2 v3 M → wS D A s.heap (WM τ ad M) H locs → lv_has ls 5 [(0, .ref (ad 1)), (2, .int (iI v2)), (3, .int (iI v3))] → W p l e (rmk 8 0 0) s m args below meth c H locs 0 0 (MQ below (gQi D (EQi (WM τ ad) MR Q) A) args s 0 0 A) (F0 m 95 ls [])) → ∀ (n : Nat) (v2 : Int) (v3 : Int) (v4 : Int) (M : Mem) (H : Heap) (locs : List Loc) (ls : Array Slot), MR M → qX12_stands_L42 p1 X95 Q n v2 v3 v4 M → wS D A s.heap (WM τ ad M) H locs → lv_has ls 5 [(0, .ref (ad 1)), (1, .int (iI p1)), (2, .int (iI v2)), (3, .int (iI v3)), (4, .int (iI v4))] → W p l e (rmk 8 0 0) s m args below meth c H locs 0 0 (MQ below (gQi D (EQi (WM τ ad) MR Q) A) args s 0 0 A) (F0 m 42 ls []) := by
    intro X95 hX95 n
    induction n with
    | zero => intro v2 v3 v4 M H locs ls hM hv; rw [qX12_stands_L42] at hv; exact hv.elim
    | succ n ih =>
      intro v2 v3 v4 M H locs ls hM hv hw hl
      rw [qX12_stands_L42] at hv
      refine lv_iload hx hb dX12_stands_42 (lv_at hl 4 rfl) ?_
      obtain ⟨c7, hv⟩ := hv
      refine r_if_lt (tgt := 95) hx hb dX12_stands_44 (by decide) c7  (fun b8 => ?_) (fun b8 => ?_)
      · have hv := hv.1 b8
        exact hX95 v2 v3 M _ _ _ hM hv hw (lv_sub hl [0, 2, 3] rfl)
      · have hv := hv.2 b8
        refine lv_aload_n hx hb dX12_stands_47 rfl (lv_at hl 0 rfl) ?_
        refine k_cVv (wq_M τ ad) hx hb hml hC hLS hA hw hl.1 (mX12_copies l D τ ad sA sV _   M hM _ hv) kX12_copies ml_X12_390 rfl (gM_1 τ ad M) rfl rfl (Nat.le_of_ble_eq_true rfl) (rm_ok (by decide) (by decide)) ⟨Nat.zero_le _, Nat.zero_le _⟩ dX12_stands_48 (fun M9 H locs hM hv hw => ?_)
        refine lv_aload_n hx hb dX12_stands_51 rfl (lv_at hl 0 rfl) ?_
        refine gf_X12_34 hx hb hC hw 1 (gM_1 τ ad M9) rfl dX12_stands_52 ?_
        refine r_bipush hx hb dX12_stands_55 (by decide +kernel) ?_
        refine lv_iload_n hx hb dX12_stands_57 rfl (lv_at hl 1 rfl) ?_
        refine r_iadd (z := (13 + p1)) hx hb dX12_stands_58 rfl ?_
        refine lv_iload hx hb dX12_stands_59 (lv_at hl 4 rfl) ?_
        obtain ⟨c10, hv⟩ := hv
        obtain ⟨c11, hv⟩ := hv
        obtain ⟨M12, e12⟩ : ∃ M12 : Mem, M12 = up2 M9 6 (13 + p1) v4 := ⟨_, rfl⟩
        have hv := hv M12 e12
        refine r_iast (ws' := (WM τ ad M12)) hx hb hC hw 6 (gI_M aM_6 τ ad M9) c10 c11 (by decide) (by rw [e12]; exact sI_M aM_6 τ ad M9 _ _) dX12_stands_61 (fun H locs hw => ?_)
        have hM : MR M12 := by rw [e12]; exact hM.put aM_6.pos c7
        refine lv_aload_n hx hb dX12_stands_62 rfl (lv_at hl 0 rfl) ?_
        refine gf_X12_34 hx hb hC hw 1 (gM_1 τ ad M12) rfl dX12_stands_63 ?_
        refine r_bipush hx hb dX12_stands_66 (by decide +kernel) ?_
        refine lv_iload_n hx hb dX12_stands_68 rfl (lv_at hl 1 rfl) ?_
        refine r_iadd (z := (21 + p1)) hx hb dX12_stands_69 rfl ?_
        refine r_iconst hx hb dX12_stands_70 ?_
        obtain ⟨c13, hv⟩ := hv
        obtain ⟨c14, hv⟩ := hv
        obtain ⟨M15, e15⟩ : ∃ M15 : Mem, M15 = up2 M12 6 (21 + p1) (-1) := ⟨_, rfl⟩
        have hv := hv M15 e15
        refine r_iast (ws' := (WM τ ad M15)) hx hb hC hw 6 (gI_M aM_6 τ ad M12) c13 c14 (by decide) (by rw [e15]; exact sI_M aM_6 τ ad M12 _ _) dX12_stands_71 (fun H locs hw => ?_)
        have hM : MR M15 := by rw [e15]; exact hM.put aM_6.pos (by decide)
        refine lv_aload_n hx hb dX12_stands_72 rfl (lv_at hl 0 rfl) ?_
        refine k_cVi (wq_M τ ad) hx hb hml hC hLS hA hw hl.1 (mX12_rightThen l D τ ad sA sV _   M15 hM _ hv) kX12_rightThen ml_X12_401 rfl (gM_1 τ ad M15) rfl rfl (Nat.le_of_ble_eq_true rfl) (rm_ok (by decide) (by decide)) ⟨Nat.zero_le _, Nat.zero_le _⟩ dX12_stands_73 (fun x16 M16 H locs g16 hM hv hw => ?_)
        have hv := hv g16
        refine lv_iload_n hx hb dX12_stands_76 rfl (lv_at hl 1 rfl) ?_
        refine k_cSz (wq_M τ ad) hx hb hml hC hLS hA hw hl.1 (mX12_has l D τ ad sA sV _ x16 p1 g16 hp1 M16 hM _ hv) kX12_has ml_X12_411 rfl rfl (Nat.le_of_ble_eq_true rfl) (rm_ok (by decide) (by decide)) ⟨Nat.zero_le _, Nat.zero_le _⟩ dX12_stands_77 (fun x17 M17 H locs g17 z17 hM hv hw => ?_)
        have hv := hv g17 z17
        refine r_if_eq (tgt := 89) hx hb dX12_stands_80 (by decide) g17  (fun b18 => ?_) (fun b18 => ?_)
        · have hv := hv.1 b18
          refine r_iinc (v := (v4 + (-1))) (lv' := [(4, .int (iI (v4 + (-1)))), (0, .ref (ad 1)), (1, .int (iI p1)), (2, .int (iI v2)), (3, .int (iI v3))]) hx hb dX12_stands_89 hl (k := 4) rfl rfl (by decide) rfl (fun ls hl => ?_)
          refine lv_goto (tgt := 42) hx hb dX12_stands_92 (by decide) ?_
          exact ih v2 v3 (v4 + (-1)) M17 _ _ _ hM hv hw (lv_sub hl [1, 2, 3, 4, 0] rfl)
        · have hv := hv.2 b18
          refine lv_iload hx hb dX12_stands_83 (lv_at hl 4 rfl) ?_
          refine lv_istore_n (lv' := [(2, .int (iI v4)), (0, .ref (ad 1)), (1, .int (iI p1)), (3, .int (iI v3)), (4, .int (iI v4))]) hx hb dX12_stands_85 rfl hl (by decide) rfl (fun ls hl => ?_)
          refine r_iinc (v := (v3 + 1)) (lv' := [(3, .int (iI (v3 + 1))), (2, .int (iI v4)), (0, .ref (ad 1)), (1, .int (iI p1)), (4, .int (iI v4))]) hx hb dX12_stands_86 hl (k := 3) rfl rfl (by decide) rfl (fun ls hl => ?_)
          refine r_iinc (v := (v4 + (-1))) (lv' := [(4, .int (iI (v4 + (-1)))), (3, .int (iI (v3 + 1))), (2, .int (iI v4)), (0, .ref (ad 1)), (1, .int (iI p1))]) hx hb dX12_stands_89 hl (k := 4) rfl rfl (by decide) rfl (fun ls hl => ?_)
          refine lv_goto (tgt := 42) hx hb dX12_stands_92 (by decide) ?_
          exact ih v4 (v3 + 1) (v4 + (-1)) M17 _ _ _ hM hv hw (lv_sub hl [3, 4, 2, 1, 0] rfl)
  refine lv_aload_n hx hb dX12_stands_0 rfl (lv_at hl 0 rfl) ?_
  refine r_iconst hx hb dX12_stands_1 ?_
  obtain ⟨M1, e1⟩ : ∃ M1 : Mem, M1 = up2 M 1 0 0 := ⟨_, rfl⟩
  have hv := hv M1 e1
  refine pf_X12_112 (ws' := (WM τ ad M1)) hx hb hC hw 1 (gM_1 τ ad M) (Nat.le_of_ble_eq_true rfl) (by rw [e1]; exact sM_1_0 τ ad M _) dX12_stands_2 (fun H locs hw => ?_)
  have hM : MR M1 := by rw [e1]; exact hM.put (by decide) (by decide)
  refine lv_aload_n hx hb dX12_stands_5 rfl (lv_at hl 0 rfl) ?_
  refine lv_iload_n hx hb dX12_stands_6 rfl (lv_at hl 1 rfl) ?_
  refine k_cVz (wq_M τ ad) hx hb hml hC hLS hA hw hl.1 (mX12_isMourner l D τ ad sA sV _ p1 hp1 M1 hM _ hv) kX12_isMourner ml_X12_308 rfl (gM_1 τ ad M1) rfl rfl (Nat.le_of_ble_eq_true rfl) (rm_ok (by decide) (by decide)) ⟨Nat.zero_le _, Nat.zero_le _⟩ dX12_stands_7 (fun x2 M2 H locs g2 z2 hM hv hw => ?_)
  have hv := hv g2 z2
  refine r_if_ne (tgt := 15) hx hb dX12_stands_10 (by decide) g2  (fun b3 => ?_) (fun b3 => ?_)
  · have hv := hv.1 b3
    refine lv_aload_n hx hb dX12_stands_15 rfl (lv_at hl 0 rfl) ?_
    refine gf_X12_31 hx hb hC hw 1 (gM_1 τ ad M2) rfl dX12_stands_16 ?_
    refine lv_iload_n hx hb dX12_stands_19 rfl (lv_at hl 1 rfl) ?_
    refine k_cSz (wq_M τ ad) hx hb hml hC hLS hA hw hl.1 (mX12_isEnded l D τ ad sA sV _ 5 p1 aM_5 hp1 M2 hM _ hv) kX12_isEnded ml_X12_132 rfl rfl (Nat.le_of_ble_eq_true rfl) (rm_ok (by decide) (by decide)) ⟨Nat.zero_le _, Nat.zero_le _⟩ dX12_stands_20 (fun x4 M4 H locs g4 z4 hM hv hw => ?_)
    have hv := hv g4 z4
    refine r_if_eq (tgt := 29) hx hb dX12_stands_23 (by decide) g4  (fun b5 => ?_) (fun b5 => ?_)
    · have hv := hv.1 b5
      refine r_bipush hx hb dX12_stands_29 (by decide +kernel) ?_
      refine lv_istore_n (lv' := [(2, .int (iI (-2))), (0, .ref (ad 1)), (1, .int (iI p1))]) hx hb dX12_stands_31 rfl hl (by decide) rfl (fun ls hl => ?_)
      refine r_iconst hx hb dX12_stands_32 ?_
      refine lv_istore_n (lv' := [(3, .int (iI 0)), (2, .int (iI (-2))), (0, .ref (ad 1)), (1, .int (iI p1))]) hx hb dX12_stands_33 rfl hl (by decide) rfl (fun ls hl => ?_)
      refine lv_aload_n hx hb dX12_stands_34 rfl (lv_at hl 2 rfl) ?_
      refine k_cVi (wq_M τ ad) hx hb hml hC hLS hA hw hl.1 (mX12_gate l D τ ad sA sV _   M4 hM _ hv) kX12_gate ml_X12_192 rfl (gM_1 τ ad M4) rfl rfl (Nat.le_of_ble_eq_true rfl) (rm_ok (by decide) (by decide)) ⟨Nat.zero_le _, Nat.zero_le _⟩ dX12_stands_35 (fun x6 M6 H locs g6 hM hv hw => ?_)
      have hv := hv g6
      refine r_iconst hx hb dX12_stands_38 ?_
      refine r_isub (z := (x6 - 1)) hx hb dX12_stands_39 rfl ?_
      refine lv_istore (lv' := [(4, .int (iI (x6 - 1))), (3, .int (iI 0)), (2, .int (iI (-2))), (0, .ref (ad 1)), (1, .int (iI p1))]) hx hb dX12_stands_40 hl (by decide) rfl (fun ls hl => ?_)
      obtain ⟨n19, hv⟩ := hv
      refine L42 _ ?_ n19 (-2) 0 (x6 - 1) M6 _ _ _ hM hv hw (lv_sub hl [3, 4, 2, 1, 0] rfl)
      · intro v2 v3 M H locs ls hM hv hw hl
        refine lv_iload_n hx hb dX12_stands_95 rfl (lv_at hl 1 rfl) ?_
        obtain ⟨c20, hv⟩ := hv
        refine r_if_lt (tgt := 110) hx hb dX12_stands_96 (by decide) c20  (fun b21 => ?_) (fun b21 => ?_)
        · have hv := hv.1 b21
          refine lv_iload_n hx hb dX12_stands_110 rfl (lv_at hl 1 rfl) ?_
          exact k_iret (wq_M τ ad) hx hb hr hlk hw hM c20 hv dX12_stands_111
        · have hv := hv.2 b21
          refine lv_aload_n hx hb dX12_stands_99 rfl (lv_at hl 0 rfl) ?_
          refine r_iconst hx hb dX12_stands_100 ?_
          obtain ⟨M22, e22⟩ : ∃ M22 : Mem, M22 = up2 M 1 1 0 := ⟨_, rfl⟩
          have hv := hv M22 e22
          refine pf_X12_119 (ws' := (WM τ ad M22)) hx hb hC hw 1 (gM_1 τ ad M) (Nat.le_of_ble_eq_true rfl) (by rw [e22]; exact sM_1_1 τ ad M _) dX12_stands_101 (fun H locs hw => ?_)
          have hM : MR M22 := by rw [e22]; exact hM.put (by decide) (by decide)
          refine lv_aload_n hx hb dX12_stands_104 rfl (lv_at hl 0 rfl) ?_
          refine lv_iload_n hx hb dX12_stands_105 rfl (lv_at hl 2 rfl) ?_
          obtain ⟨c23, hv⟩ := hv
          refine r_i2l hx hb dX12_stands_106 c23 ?_
          refine k_cVv (wq_M τ ad) hx hb hml hC hLS hA hw hl.1 (mX12_enters l D τ ad sA sV _ v3 (iR_lR c23) M22 hM _ hv) kX12_enters ml_X12_358 rfl (gM_1 τ ad M22) rfl rfl (Nat.le_of_ble_eq_true rfl) (rm_ok (by decide) (by decide)) ⟨Nat.zero_le _, Nat.zero_le _⟩ dX12_stands_107 (fun M24 H locs hM hv hw => ?_)
          refine lv_iload_n hx hb dX12_stands_110 rfl (lv_at hl 1 rfl) ?_
          exact k_iret (wq_M τ ad) hx hb hr hlk hw hM c20 hv dX12_stands_111
    · have hv := hv.2 b5
      refine r_bipush hx hb dX12_stands_26 (by decide +kernel) ?_
      exact k_iret (wq_M τ ad) hx hb hr hlk hw hM (by decide) hv dX12_stands_28
  · have hv := hv.2 b3
    refine r_iconst hx hb dX12_stands_13 ?_
    exact k_iret (wq_M τ ad) hx hb hr hlk hw hM (by decide) hv dX12_stands_14
set_option maxHeartbeats 4000000 in
set_option maxRecDepth 100000 in
theorem mX12_when (l : Launch) (D : va_G) (τ : Nat → ClassId) (ad : Nat → Nat) (sA sV : Nat → Nat) (sz : Nat) (p1 : Int) (hp1 : iR p1) (M : Mem) (hM : MR M) (Q : Int → Mem → Prop) (hv : qX12_when p1 M Q) : Met l yX12_when (lw_w yX12_when cX12_when 7 (some .int)) (rmk 8 0 0) (kPc D τ sA sV (WM τ ad M) sz [.ref (ad 1), .int (iI p1)]) (gQi D (EQi (WM τ ad) MR Q) (va_A (WM τ ad M) sz)) 0 0 (va_A (WM τ ad M) sz) := by
  refine k_met (ret := (some .int)) (Qc := gQi D (EQi (WM τ ad) MR Q)) (by decide +kernel) (Nat.le_of_ble_eq_true rfl) ?_
  intro p e s m args below meth c A ls hx hb hml hr hlk hnm hC hLS hA hw hl
  have hC : cx D τ s m args RX12 := hC
  have hl : lv_has ls 7 [(0, .ref (ad 1)), (1, .int (iI p1))] := hl
  unfold qX12_when at hv
  have J111 : ∀ (R : Int → Int → Int → Mem → Prop), (∀ (v2 : Int) (v3 : Int) (v4 : Int) (M : Mem) (H : Heap) (locs : List Loc) (ls : Array Slot), MR M → R v2 v3 v4 M → wS D A s.heap (WM τ ad M) H locs → lv_has ls 7 [(0, .ref (ad 1)), (1, .int (iI p1)), (2, .int (iI v2)), (3, .int (iI v3)), (4, .int (iI v4))] → W p l e (rmk 8 0 0) s m args below meth c H locs 0 0 (MQ below (gQi D (EQi (WM τ ad) MR Q) A) args s 0 0 A) (F0 m 24 ls [])) → ∀ (X142 : Int → Int → Mem → Prop), (∀ (v2 : Int) (v3 : Int) (M : Mem) (H : Heap) (locs : List Loc) (ls : Array Slot), MR M → X142 v2 v3 M → wS D A s.heap (WM τ ad M) H locs → lv_has ls 7 [(0, .ref (ad 1)), (2, .int (iI v2)), (3, .int (iI v3))] → W p l e (rmk 8 0 0) s m args below meth c H locs 0 0 (MQ below (gQi D (EQi (WM τ ad) MR Q) A) args s 0 0 A) (F0 m 142 ls [])) → ∀ (v2 : Int) (v3 : Int) (v4 : Int) (M : Mem) (H : Heap) (locs : List Loc) (ls : Array Slot), MR M → qX12_when_J111 p1 R X142 Q v2 v3 v4 M → wS D A s.heap (WM τ ad M) H locs → lv_has ls 7 [(0, .ref (ad 1)), (1, .int (iI p1)), (2, .int (iI v2)), (3, .int (iI v3)), (4, .int (iI v4))] → W p l e (rmk 8 0 0) s m args below meth c H locs 0 0 (MQ below (gQi D (EQi (WM τ ad) MR Q) A) args s 0 0 A) (F0 m 111 ls []) := by
    intro R hR X142 hX142 v2 v3 v4 M H locs ls hM hv hw hl
    unfold qX12_when_J111 at hv
    refine lv_aload_n hx hb dX12_when_111 rfl (lv_at hl 0 rfl) ?_
    refine k_cVi (wq_M τ ad) hx hb hml hC hLS hA hw hl.1 (mX12_rightThen l D τ ad sA sV _   M hM _ hv) kX12_rightThen ml_X12_401 rfl (gM_1 τ ad M) rfl rfl (Nat.le_of_ble_eq_true rfl) (rm_ok (by decide) (by decide)) ⟨Nat.zero_le _, Nat.zero_le _⟩ dX12_when_112 (fun x15 M15 H locs g15 hM hv hw => ?_)
    have hv := hv g15
    refine lv_iload_n hx hb dX12_when_115 rfl (lv_at hl 1 rfl) ?_
    refine k_cSz (wq_M τ ad) hx hb hml hC hLS hA hw hl.1 (mX12_has l D τ ad sA sV _ x15 p1 g15 hp1 M15 hM _ hv) kX12_has ml_X12_411 rfl rfl (Nat.le_of_ble_eq_true rfl) (rm_ok (by decide) (by decide)) ⟨Nat.zero_le _, Nat.zero_le _⟩ dX12_when_116 (fun x16 M16 H locs g16 z16 hM hv hw => ?_)
    have hv := hv g16 z16
    refine r_if_eq (tgt := 136) hx hb dX12_when_119 (by decide) g16  (fun b17 => ?_) (fun b17 => ?_)
    · have hv := hv.1 b17
      refine r_iinc (v := (v4 + (-1))) (lv' := [(4, .int (iI (v4 + (-1)))), (0, .ref (ad 1)), (1, .int (iI p1)), (2, .int (iI v2)), (3, .int (iI v3))]) hx hb dX12_when_136 hl (k := 4) rfl rfl (by decide) rfl (fun ls hl => ?_)
      refine lv_goto (tgt := 24) hx hb dX12_when_139 (by decide) ?_
      exact hR v2 v3 (v4 + (-1)) M16 _ _ _ hM hv hw (lv_sub hl [1, 2, 3, 4, 0] rfl)
    · have hv := hv.2 b17
      refine lv_iload_n hx hb dX12_when_122 rfl (lv_at hl 2 rfl) ?_
      obtain ⟨c18, hv⟩ := hv
      refine r_if_ge (tgt := 131) hx hb dX12_when_123 (by decide) c18  (fun b19 => ?_) (fun b19 => ?_)
      · have hv := hv.1 b19
        refine lv_iload_n hx hb dX12_when_131 rfl (lv_at hl 3 rfl) ?_
        refine lv_istore_n (lv' := [(3, .int (iI v3)), (0, .ref (ad 1)), (1, .int (iI p1)), (2, .int (iI v2)), (4, .int (iI v4))]) hx hb dX12_when_132 rfl hl (by decide) rfl (fun ls hl => ?_)
        refine lv_iload hx hb dX12_when_133 (lv_at hl 4 rfl) ?_
        refine lv_istore_n (lv' := [(2, .int (iI v4)), (3, .int (iI v3)), (0, .ref (ad 1)), (1, .int (iI p1)), (4, .int (iI v4))]) hx hb dX12_when_135 rfl hl (by decide) rfl (fun ls hl => ?_)
        refine r_iinc (v := (v4 + (-1))) (lv' := [(4, .int (iI (v4 + (-1)))), (2, .int (iI v4)), (3, .int (iI v3)), (0, .ref (ad 1)), (1, .int (iI p1))]) hx hb dX12_when_136 hl (k := 4) rfl rfl (by decide) rfl (fun ls hl => ?_)
        refine lv_goto (tgt := 24) hx hb dX12_when_139 (by decide) ?_
        exact hR v4 v3 (v4 + (-1)) M16 _ _ _ hM hv hw (lv_sub hl [3, 4, 1, 2, 0] rfl)
      · have hv := hv.2 b19
        refine lv_iload hx hb dX12_when_126 (lv_at hl 4 rfl) ?_
        refine lv_goto (tgt := 132) hx hb dX12_when_128 (by decide) ?_
        refine lv_istore_n (lv' := [(3, .int (iI v4)), (0, .ref (ad 1)), (1, .int (iI p1)), (2, .int (iI v2)), (4, .int (iI v4))]) hx hb dX12_when_132 rfl hl (by decide) rfl (fun ls hl => ?_)
        refine lv_iload hx hb dX12_when_133 (lv_at hl 4 rfl) ?_
        refine lv_istore_n (lv' := [(2, .int (iI v4)), (3, .int (iI v4)), (0, .ref (ad 1)), (1, .int (iI p1)), (4, .int (iI v4))]) hx hb dX12_when_135 rfl hl (by decide) rfl (fun ls hl => ?_)
        refine r_iinc (v := (v4 + (-1))) (lv' := [(4, .int (iI (v4 + (-1)))), (2, .int (iI v4)), (3, .int (iI v4)), (0, .ref (ad 1)), (1, .int (iI p1))]) hx hb dX12_when_136 hl (k := 4) rfl rfl (by decide) rfl (fun ls hl => ?_)
        refine lv_goto (tgt := 24) hx hb dX12_when_139 (by decide) ?_
        exact hR v4 v4 (v4 + (-1)) M16 _ _ _ hM hv hw (lv_sub hl [3, 4, 1, 2, 0] rfl)
  have J97 : ∀ (R : Int → Int → Int → Mem → Prop), (∀ (v2 : Int) (v3 : Int) (v4 : Int) (M : Mem) (H : Heap) (locs : List Loc) (ls : Array Slot), MR M → R v2 v3 v4 M → wS D A s.heap (WM τ ad M) H locs → lv_has ls 7 [(0, .ref (ad 1)), (1, .int (iI p1)), (2, .int (iI v2)), (3, .int (iI v3)), (4, .int (iI v4))] → W p l e (rmk 8 0 0) s m args below meth c H locs 0 0 (MQ below (gQi D (EQi (WM τ ad) MR Q) A) args s 0 0 A) (F0 m 24 ls [])) → ∀ (X142 : Int → Int → Mem → Prop), (∀ (v2 : Int) (v3 : Int) (M : Mem) (H : Heap) (locs : List Loc) (ls : Array Slot), MR M → X142 v2 v3 M → wS D A s.heap (WM τ ad M) H locs → lv_has ls 7 [(0, .ref (ad 1)), (2, .int (iI v2)), (3, .int (iI v3))] → W p l e (rmk 8 0 0) s m args below meth c H locs 0 0 (MQ below (gQi D (EQi (WM τ ad) MR Q) A) args s 0 0 A) (F0 m 142 ls [])) → ∀ (v2 : Int) (v3 : Int) (v4 : Int) (t0 : Int) (M : Mem) (H : Heap) (locs : List Loc) (ls : Array Slot), MR M → qX12_when_J97 p1 R X142 Q v2 v3 v4 t0 M → wS D A s.heap (WM τ ad M) H locs → lv_has ls 7 [(0, .ref (ad 1)), (1, .int (iI p1)), (2, .int (iI v2)), (3, .int (iI v3)), (4, .int (iI v4))] → W p l e (rmk 8 0 0) s m args below meth c H locs 0 0 (MQ below (gQi D (EQi (WM τ ad) MR Q) A) args s 0 0 A) (F0 m 97 ls [.int (iI t0)]) := by
    intro R hR X142 hX142 v2 v3 v4 t0 M H locs ls hM hv hw hl
    unfold qX12_when_J97 at hv
    refine lv_istore (lv' := [(6, .int (iI t0)), (0, .ref (ad 1)), (1, .int (iI p1)), (2, .int (iI v2)), (3, .int (iI v3)), (4, .int (iI v4))]) hx hb dX12_when_97 hl (by decide) rfl (fun ls hl => ?_)
    refine lv_iload hx hb dX12_when_99 (lv_at hl 0 rfl) ?_
    obtain ⟨c13, hv⟩ := hv
    refine r_if_ge (tgt := 111) hx hb dX12_when_101 (by decide) c13  (fun b14 => ?_) (fun b14 => ?_)
    · have hv := hv.1 b14
      exact J111 _ hR _ hX142 v2 v3 v4 M _ _ _ hM hv hw (lv_sub hl [1, 2, 3, 4, 5] rfl)
    · have hv := hv.2 b14
      refine lv_iload hx hb dX12_when_104 (lv_at hl 0 rfl) ?_
      refine r_bipush hx hb dX12_when_106 (by decide +kernel) ?_
      refine r_icmp_ne (tgt := 136) hx hb dX12_when_108 (by decide) c13 (by decide) (fun b20 => ?_) (fun b20 => ?_)
      · have hv := hv.1 b20
        refine r_iinc (v := (v4 + (-1))) (lv' := [(4, .int (iI (v4 + (-1)))), (6, .int (iI t0)), (0, .ref (ad 1)), (1, .int (iI p1)), (2, .int (iI v2)), (3, .int (iI v3))]) hx hb dX12_when_136 hl (k := 5) rfl rfl (by decide) rfl (fun ls hl => ?_)
        refine lv_goto (tgt := 24) hx hb dX12_when_139 (by decide) ?_
        exact hR v2 v3 (v4 + (-1)) M _ _ _ hM hv hw (lv_sub hl [2, 3, 4, 5, 0] rfl)
      · have hv := hv.2 b20
        exact J111 _ hR _ hX142 v2 v3 v4 M _ _ _ hM hv hw (lv_sub hl [1, 2, 3, 4, 5] rfl)
  have J77 : ∀ (R : Int → Int → Int → Mem → Prop), (∀ (v2 : Int) (v3 : Int) (v4 : Int) (M : Mem) (H : Heap) (locs : List Loc) (ls : Array Slot), MR M → R v2 v3 v4 M → wS D A s.heap (WM τ ad M) H locs → lv_has ls 7 [(0, .ref (ad 1)), (1, .int (iI p1)), (2, .int (iI v2)), (3, .int (iI v3)), (4, .int (iI v4))] → W p l e (rmk 8 0 0) s m args below meth c H locs 0 0 (MQ below (gQi D (EQi (WM τ ad) MR Q) A) args s 0 0 A) (F0 m 24 ls [])) → ∀ (X142 : Int → Int → Mem → Prop), (∀ (v2 : Int) (v3 : Int) (M : Mem) (H : Heap) (locs : List Loc) (ls : Array Slot), MR M → X142 v2 v3 M → wS D A s.heap (WM τ ad M) H locs → lv_has ls 7 [(0, .ref (ad 1)), (2, .int (iI v2)), (3, .int (iI v3))] → W p l e (rmk 8 0 0) s m args below meth c H locs 0 0 (MQ below (gQi D (EQi (WM τ ad) MR Q) A) args s 0 0 A) (F0 m 142 ls [])) → ∀ (v2 : Int) (v3 : Int) (v4 : Int) (t0 : Int) (M : Mem) (H : Heap) (locs : List Loc) (ls : Array Slot), MR M → qX12_when_J77 p1 R X142 Q v2 v3 v4 t0 M → wS D A s.heap (WM τ ad M) H locs → lv_has ls 7 [(0, .ref (ad 1)), (1, .int (iI p1)), (2, .int (iI v2)), (3, .int (iI v3)), (4, .int (iI v4))] → W p l e (rmk 8 0 0) s m args below meth c H locs 0 0 (MQ below (gQi D (EQi (WM τ ad) MR Q) A) args s 0 0 A) (F0 m 77 ls [.int (iI t0)]) := by
    intro R hR X142 hX142 v2 v3 v4 t0 M H locs ls hM hv hw hl
    unfold qX12_when_J77 at hv
    refine lv_istore (lv' := [(5, .int (iI t0)), (0, .ref (ad 1)), (1, .int (iI p1)), (2, .int (iI v2)), (3, .int (iI v3)), (4, .int (iI v4))]) hx hb dX12_when_77 hl (by decide) rfl (fun ls hl => ?_)
    refine lv_iload hx hb dX12_when_79 (lv_at hl 0 rfl) ?_
    obtain ⟨c10, hv⟩ := hv
    refine r_if_eq (tgt := 88) hx hb dX12_when_81 (by decide) c10  (fun b11 => ?_) (fun b11 => ?_)
    · have hv := hv.1 b11
      refine lv_aload_n hx hb dX12_when_88 rfl (lv_at hl 1 rfl) ?_
      refine lv_aload_n hx hb dX12_when_89 rfl (lv_at hl 1 rfl) ?_
      refine gf_X12_34 hx hb hC hw 1 (gM_1 τ ad M) rfl dX12_when_90 ?_
      refine lv_iload_n hx hb dX12_when_93 rfl (lv_at hl 2 rfl) ?_
      refine k_cVi (wq_M τ ad) hx hb hml hC hLS hA hw hl.1 (mX12_turnsOne l D τ ad sA sV _ 6 p1 aM_6 hp1 M hM _ hv) kX12_turnsOne ml_X12_362 rfl (gM_1 τ ad M) rfl rfl (Nat.le_of_ble_eq_true rfl) (rm_ok (by decide) (by decide)) ⟨Nat.zero_le _, Nat.zero_le _⟩ dX12_when_94 (fun x12 M12 H locs g12 hM hv hw => ?_)
      have hv := hv g12
      exact J97 _ hR _ hX142 v2 v3 v4 x12 M12 _ _ _ hM hv hw (lv_sub hl [1, 2, 3, 4, 5] rfl)
    · have hv := hv.2 b11
      refine r_iconst hx hb dX12_when_84 ?_
      refine lv_goto (tgt := 97) hx hb dX12_when_85 (by decide) ?_
      exact J97 _ hR _ hX142 v2 v3 v4 0 M _ _ _ hM hv hw (lv_sub hl [1, 2, 3, 4, 5] rfl)
  have J76 : ∀ (R : Int → Int → Int → Mem → Prop), (∀ (v2 : Int) (v3 : Int) (v4 : Int) (M : Mem) (H : Heap) (locs : List Loc) (ls : Array Slot), MR M → R v2 v3 v4 M → wS D A s.heap (WM τ ad M) H locs → lv_has ls 7 [(0, .ref (ad 1)), (1, .int (iI p1)), (2, .int (iI v2)), (3, .int (iI v3)), (4, .int (iI v4))] → W p l e (rmk 8 0 0) s m args below meth c H locs 0 0 (MQ below (gQi D (EQi (WM τ ad) MR Q) A) args s 0 0 A) (F0 m 24 ls [])) → ∀ (X142 : Int → Int → Mem → Prop), (∀ (v2 : Int) (v3 : Int) (M : Mem) (H : Heap) (locs : List Loc) (ls : Array Slot), MR M → X142 v2 v3 M → wS D A s.heap (WM τ ad M) H locs → lv_has ls 7 [(0, .ref (ad 1)), (2, .int (iI v2)), (3, .int (iI v3))] → W p l e (rmk 8 0 0) s m args below meth c H locs 0 0 (MQ below (gQi D (EQi (WM τ ad) MR Q) A) args s 0 0 A) (F0 m 142 ls [])) → ∀ (v2 : Int) (v3 : Int) (v4 : Int) (M : Mem) (H : Heap) (locs : List Loc) (ls : Array Slot), MR M → qX12_when_J76 p1 R X142 Q v2 v3 v4 M → wS D A s.heap (WM τ ad M) H locs → lv_has ls 7 [(0, .ref (ad 1)), (1, .int (iI p1)), (2, .int (iI v2)), (3, .int (iI v3)), (4, .int (iI v4))] → W p l e (rmk 8 0 0) s m args below meth c H locs 0 0 (MQ below (gQi D (EQi (WM τ ad) MR Q) A) args s 0 0 A) (F0 m 76 ls []) := by
    intro R hR X142 hX142 v2 v3 v4 M H locs ls hM hv hw hl
    unfold qX12_when_J76 at hv
    refine r_iconst hx hb dX12_when_76 ?_
    exact J77 _ hR _ hX142 v2 v3 v4 0 M _ _ _ hM hv hw (lv_sub hl [0, 1, 2, 3, 4] rfl)
  have L24 : ∀ (X142 : Int → Int → Mem → Prop), (∀ (v2 : Int) (v3 : Int) (M : Mem) (H : Heap) (locs : List Loc) (ls : Array Slot), MR M → X142 v2 v3 M → wS D A s.heap (WM τ ad M) H locs → lv_has ls 7 [(0, .ref (ad 1)), (2, .int (iI v2)), (3, .int (iI v3))] → W p l e (rmk 8 0 0) s m args below meth c H locs 0 0 (MQ below (gQi D (EQi (WM τ ad) MR Q) A) args s 0 0 A) (F0 m 142 ls [])) → ∀ (n : Nat) (v2 : Int) (v3 : Int) (v4 : Int) (M : Mem) (H : Heap) (locs : List Loc) (ls : Array Slot), MR M → qX12_when_L24 p1 X142 Q n v2 v3 v4 M → wS D A s.heap (WM τ ad M) H locs → lv_has ls 7 [(0, .ref (ad 1)), (1, .int (iI p1)), (2, .int (iI v2)), (3, .int (iI v3)), (4, .int (iI v4))] → W p l e (rmk 8 0 0) s m args below meth c H locs 0 0 (MQ below (gQi D (EQi (WM τ ad) MR Q) A) args s 0 0 A) (F0 m 24 ls []) := by
    intro X142 hX142 n
    induction n with
    | zero => intro v2 v3 v4 M H locs ls hM hv; rw [qX12_when_L24] at hv; exact hv.elim
    | succ n ih =>
      intro v2 v3 v4 M H locs ls hM hv hw hl
      rw [qX12_when_L24] at hv
      refine lv_iload hx hb dX12_when_24 (lv_at hl 4 rfl) ?_
      obtain ⟨c4, hv⟩ := hv
      refine r_if_lt (tgt := 142) hx hb dX12_when_26 (by decide) c4  (fun b5 => ?_) (fun b5 => ?_)
      · have hv := hv.1 b5
        exact hX142 v2 v3 M _ _ _ hM hv hw (lv_sub hl [0, 2, 3] rfl)
      · have hv := hv.2 b5
        refine lv_aload_n hx hb dX12_when_29 rfl (lv_at hl 0 rfl) ?_
        refine k_cVv (wq_M τ ad) hx hb hml hC hLS hA hw hl.1 (mX12_copies l D τ ad sA sV _   M hM _ hv) kX12_copies ml_X12_390 rfl (gM_1 τ ad M) rfl rfl (Nat.le_of_ble_eq_true rfl) (rm_ok (by decide) (by decide)) ⟨Nat.zero_le _, Nat.zero_le _⟩ dX12_when_30 (fun M6 H locs hM hv hw => ?_)
        refine lv_aload_n hx hb dX12_when_33 rfl (lv_at hl 0 rfl) ?_
        refine lv_aload_n hx hb dX12_when_34 rfl (lv_at hl 0 rfl) ?_
        refine gf_X12_34 hx hb hC hw 1 (gM_1 τ ad M6) rfl dX12_when_35 ?_
        refine lv_iload hx hb dX12_when_38 (lv_at hl 4 rfl) ?_
        refine k_cVv (wq_M τ ad) hx hb hml hC hLS hA hw hl.1 (mX12_goesOn l D τ ad sA sV _ 6 v4 aM_6 c4 M6 hM _ hv) kX12_goesOn ml_X12_355 rfl (gM_1 τ ad M6) rfl rfl (Nat.le_of_ble_eq_true rfl) (rm_ok (by decide) (by decide)) ⟨Nat.zero_le _, Nat.zero_le _⟩ dX12_when_40 (fun M7 H locs hM hv hw => ?_)
        refine lv_aload_n hx hb dX12_when_43 rfl (lv_at hl 0 rfl) ?_
        refine gf_X12_34 hx hb hC hw 1 (gM_1 τ ad M7) rfl dX12_when_44 ?_
        refine lv_iload_n hx hb dX12_when_47 rfl (lv_at hl 1 rfl) ?_
        refine k_cSz (wq_M τ ad) hx hb hml hC hLS hA hw hl.1 (mX12_isEnded l D τ ad sA sV _ 6 p1 aM_6 hp1 M7 hM _ hv) kX12_isEnded ml_X12_132 rfl rfl (Nat.le_of_ble_eq_true rfl) (rm_ok (by decide) (by decide)) ⟨Nat.zero_le _, Nat.zero_le _⟩ dX12_when_48 (fun x8 M8 H locs g8 z8 hM hv hw => ?_)
        have hv := hv g8 z8
        refine r_if_ne (tgt := 76) hx hb dX12_when_51 (by decide) g8  (fun b9 => ?_) (fun b9 => ?_)
        · have hv := hv.1 b9
          exact J76 _ ih _ hX142 v2 v3 v4 M8 _ _ _ hM hv hw (lv_sub hl [0, 1, 2, 3, 4] rfl)
        · have hv := hv.2 b9
          refine lv_aload_n hx hb dX12_when_54 rfl (lv_at hl 0 rfl) ?_
          refine gf_X12_34 hx hb hC hw 1 (gM_1 τ ad M8) rfl dX12_when_55 ?_
          refine r_bipush hx hb dX12_when_58 (by decide +kernel) ?_
          refine lv_iload_n hx hb dX12_when_60 rfl (lv_at hl 1 rfl) ?_
          refine r_iadd (z := (21 + p1)) hx hb dX12_when_61 rfl ?_
          obtain ⟨c21, hv⟩ := hv
          obtain ⟨c22, hv⟩ := hv
          refine r_iald hx hb hC hw 6 (gI_M aM_6 τ ad M8) c21 c22 (by decide) dX12_when_62 ?_
          refine r_top (fun x23 e23 => ?_)
          have g23 : iR x23 := by rw [e23]; exact hM.get aM_6.pos _
          have hv := hv x23 e23 g23
          refine lv_aload_n hx hb dX12_when_63 rfl (lv_at hl 0 rfl) ?_
          refine gf_X12_24 hx hb hC hw 1 (gM_1 τ ad M8) rfl dX12_when_64 ?_
          refine lv_iload_n hx hb dX12_when_67 rfl (lv_at hl 1 rfl) ?_
          obtain ⟨c24, hv⟩ := hv
          obtain ⟨c25, hv⟩ := hv
          refine r_iald hx hb hC hw 3 (gI_M aM_3 τ ad M8) c24 c25 (by decide) dX12_when_68 ?_
          refine r_top (fun x26 e26 => ?_)
          have g26 : iR x26 := by rw [e26]; exact hM.get aM_3.pos _
          have hv := hv x26 e26 g26
          refine r_icmp_ne (tgt := 76) hx hb dX12_when_69 (by decide) g23 g26 (fun b27 => ?_) (fun b27 => ?_)
          · have hv := hv.1 b27
            exact J76 _ ih _ hX142 v2 v3 v4 M8 _ _ _ hM hv hw (lv_sub hl [0, 1, 2, 3, 4] rfl)
          · have hv := hv.2 b27
            refine r_iconst hx hb dX12_when_72 ?_
            refine lv_goto (tgt := 77) hx hb dX12_when_73 (by decide) ?_
            exact J77 _ ih _ hX142 v2 v3 v4 1 M8 _ _ _ hM hv hw (lv_sub hl [0, 1, 2, 3, 4] rfl)
  refine lv_aload_n hx hb dX12_when_0 rfl (lv_at hl 0 rfl) ?_
  refine r_iconst hx hb dX12_when_1 ?_
  obtain ⟨M1, e1⟩ : ∃ M1 : Mem, M1 = up2 M 1 0 0 := ⟨_, rfl⟩
  have hv := hv M1 e1
  refine pf_X12_112 (ws' := (WM τ ad M1)) hx hb hC hw 1 (gM_1 τ ad M) (Nat.le_of_ble_eq_true rfl) (by rw [e1]; exact sM_1_0 τ ad M _) dX12_when_2 (fun H locs hw => ?_)
  have hM : MR M1 := by rw [e1]; exact hM.put (by decide) (by decide)
  refine lv_aload_n hx hb dX12_when_5 rfl (lv_at hl 0 rfl) ?_
  refine lv_iload_n hx hb dX12_when_6 rfl (lv_at hl 1 rfl) ?_
  refine k_cVz (wq_M τ ad) hx hb hml hC hLS hA hw hl.1 (mX12_isMourner l D τ ad sA sV _ p1 hp1 M1 hM _ hv) kX12_isMourner ml_X12_308 rfl (gM_1 τ ad M1) rfl rfl (Nat.le_of_ble_eq_true rfl) (rm_ok (by decide) (by decide)) ⟨Nat.zero_le _, Nat.zero_le _⟩ dX12_when_7 (fun x2 M2 H locs g2 z2 hM hv hw => ?_)
  have hv := hv g2 z2
  refine r_if_ne (tgt := 15) hx hb dX12_when_10 (by decide) g2  (fun b3 => ?_) (fun b3 => ?_)
  · have hv := hv.1 b3
    refine r_bipush hx hb dX12_when_15 (by decide +kernel) ?_
    refine lv_istore_n (lv' := [(2, .int (iI (-2))), (0, .ref (ad 1)), (1, .int (iI p1))]) hx hb dX12_when_17 rfl hl (by decide) rfl (fun ls hl => ?_)
    refine r_iconst hx hb dX12_when_18 ?_
    refine lv_istore_n (lv' := [(3, .int (iI 0)), (2, .int (iI (-2))), (0, .ref (ad 1)), (1, .int (iI p1))]) hx hb dX12_when_19 rfl hl (by decide) rfl (fun ls hl => ?_)
    refine r_bipush hx hb dX12_when_20 (by decide +kernel) ?_
    refine lv_istore (lv' := [(4, .int (iI 60)), (3, .int (iI 0)), (2, .int (iI (-2))), (0, .ref (ad 1)), (1, .int (iI p1))]) hx hb dX12_when_22 hl (by decide) rfl (fun ls hl => ?_)
    obtain ⟨n28, hv⟩ := hv
    refine L24 _ ?_ n28 (-2) 0 60 M2 _ _ _ hM hv hw (lv_sub hl [3, 4, 2, 1, 0] rfl)
    · intro v2 v3 M H locs ls hM hv hw hl
      refine lv_iload_n hx hb dX12_when_142 rfl (lv_at hl 1 rfl) ?_
      obtain ⟨c29, hv⟩ := hv
      refine r_if_lt (tgt := 157) hx hb dX12_when_143 (by decide) c29  (fun b30 => ?_) (fun b30 => ?_)
      · have hv := hv.1 b30
        refine lv_iload_n hx hb dX12_when_157 rfl (lv_at hl 1 rfl) ?_
        exact k_iret (wq_M τ ad) hx hb hr hlk hw hM c29 hv dX12_when_158
      · have hv := hv.2 b30
        refine lv_aload_n hx hb dX12_when_146 rfl (lv_at hl 0 rfl) ?_
        refine r_iconst hx hb dX12_when_147 ?_
        obtain ⟨M31, e31⟩ : ∃ M31 : Mem, M31 = up2 M 1 1 0 := ⟨_, rfl⟩
        have hv := hv M31 e31
        refine pf_X12_119 (ws' := (WM τ ad M31)) hx hb hC hw 1 (gM_1 τ ad M) (Nat.le_of_ble_eq_true rfl) (by rw [e31]; exact sM_1_1 τ ad M _) dX12_when_148 (fun H locs hw => ?_)
        have hM : MR M31 := by rw [e31]; exact hM.put (by decide) (by decide)
        refine lv_aload_n hx hb dX12_when_151 rfl (lv_at hl 0 rfl) ?_
        refine lv_iload_n hx hb dX12_when_152 rfl (lv_at hl 2 rfl) ?_
        obtain ⟨c32, hv⟩ := hv
        refine r_i2l hx hb dX12_when_153 c32 ?_
        refine k_cVv (wq_M τ ad) hx hb hml hC hLS hA hw hl.1 (mX12_enters l D τ ad sA sV _ v3 (iR_lR c32) M31 hM _ hv) kX12_enters ml_X12_358 rfl (gM_1 τ ad M31) rfl rfl (Nat.le_of_ble_eq_true rfl) (rm_ok (by decide) (by decide)) ⟨Nat.zero_le _, Nat.zero_le _⟩ dX12_when_154 (fun M33 H locs hM hv hw => ?_)
        refine lv_iload_n hx hb dX12_when_157 rfl (lv_at hl 1 rfl) ?_
        exact k_iret (wq_M τ ad) hx hb hr hlk hw hM c29 hv dX12_when_158
  · have hv := hv.2 b3
    refine r_iconst hx hb dX12_when_13 ?_
    exact k_iret (wq_M τ ad) hx hb hr hlk hw hM (by decide) hv dX12_when_14
set_option maxHeartbeats 4000000 in
set_option maxRecDepth 100000 in
theorem mX12_mends (l : Launch) (D : va_G) (τ : Nat → ClassId) (ad : Nat → Nat) (sA sV : Nat → Nat) (sz : Nat) (p1 : Int) (hp1 : iR p1) (M : Mem) (hM : MR M) (Q : Int → Mem → Prop) (hv : qX12_mends p1 M Q) : Met l yX12_mends (lw_w yX12_mends cX12_mends 7 (some .int)) (rmk 8 0 0) (kPc D τ sA sV (WM τ ad M) sz [.ref (ad 1), .int (iI p1)]) (gQi D (EQi (WM τ ad) MR Q) (va_A (WM τ ad M) sz)) 0 0 (va_A (WM τ ad M) sz) := by
  refine k_met (ret := (some .int)) (Qc := gQi D (EQi (WM τ ad) MR Q)) (by decide +kernel) (Nat.le_of_ble_eq_true rfl) ?_
  intro p e s m args below meth c A ls hx hb hml hr hlk hnm hC hLS hA hw hl
  have hC : cx D τ s m args RX12 := hC
  have hl : lv_has ls 7 [(0, .ref (ad 1)), (1, .int (iI p1))] := hl
  unfold qX12_mends at hv
  have J90 : ∀ (R : Int → Int → Int → Int → Mem → Prop), (∀ (v2 : Int) (v3 : Int) (v4 : Int) (v5 : Int) (M : Mem) (H : Heap) (locs : List Loc) (ls : Array Slot), MR M → R v2 v3 v4 v5 M → wS D A s.heap (WM τ ad M) H locs → lv_has ls 7 [(0, .ref (ad 1)), (1, .int (iI p1)), (2, .int (iI v2)), (3, .int (iI v3)), (4, .int (iI v4)), (5, .int (iI v5))] → W p l e (rmk 8 0 0) s m args below meth c H locs 0 0 (MQ below (gQi D (EQi (WM τ ad) MR Q) A) args s 0 0 A) (F0 m 58 ls [])) → ∀ (X122 : Int → Int → Int → Mem → Prop), (∀ (v2 : Int) (v3 : Int) (v4 : Int) (M : Mem) (H : Heap) (locs : List Loc) (ls : Array Slot), MR M → X122 v2 v3 v4 M → wS D A s.heap (WM τ ad M) H locs → lv_has ls 7 [(0, .ref (ad 1)), (1, .int (iI p1)), (2, .int (iI v2)), (3, .int (iI v3)), (4, .int (iI v4))] → W p l e (rmk 8 0 0) s m args below meth c H locs 0 0 (MQ below (gQi D (EQi (WM τ ad) MR Q) A) args s 0 0 A) (F0 m 122 ls [])) → ∀ (v2 : Int) (v3 : Int) (v4 : Int) (v5 : Int) (t0 : Int) (M : Mem) (H : Heap) (locs : List Loc) (ls : Array Slot), MR M → qX12_mends_J90 p1 R X122 Q v2 v3 v4 v5 t0 M → wS D A s.heap (WM τ ad M) H locs → lv_has ls 7 [(0, .ref (ad 1)), (1, .int (iI p1)), (2, .int (iI v2)), (3, .int (iI v3)), (4, .int (iI v4)), (5, .int (iI v5))] → W p l e (rmk 8 0 0) s m args below meth c H locs 0 0 (MQ below (gQi D (EQi (WM τ ad) MR Q) A) args s 0 0 A) (F0 m 90 ls [.int (iI t0)]) := by
    intro R hR X122 hX122 v2 v3 v4 v5 t0 M H locs ls hM hv hw hl
    unfold qX12_mends_J90 at hv
    refine lv_istore (lv' := [(6, .int (iI t0)), (0, .ref (ad 1)), (1, .int (iI p1)), (2, .int (iI v2)), (3, .int (iI v3)), (4, .int (iI v4)), (5, .int (iI v5))]) hx hb dX12_mends_90 hl (by decide) rfl (fun ls hl => ?_)
    refine lv_iload hx hb dX12_mends_92 (lv_at hl 5 rfl) ?_
    obtain ⟨c17, hv⟩ := hv
    refine r_if_eq (tgt := 113) hx hb dX12_mends_94 (by decide) c17  (fun b18 => ?_) (fun b18 => ?_)
    · have hv := hv.1 b18
      refine r_iconst hx hb dX12_mends_113 ?_
      refine lv_istore (lv' := [(4, .int (iI 0)), (6, .int (iI t0)), (0, .ref (ad 1)), (1, .int (iI p1)), (2, .int (iI v2)), (3, .int (iI v3)), (5, .int (iI v5))]) hx hb dX12_mends_114 hl (by decide) rfl (fun ls hl => ?_)
      refine r_iinc (v := (v5 + 1)) (lv' := [(5, .int (iI (v5 + 1))), (4, .int (iI 0)), (6, .int (iI t0)), (0, .ref (ad 1)), (1, .int (iI p1)), (2, .int (iI v2)), (3, .int (iI v3))]) hx hb dX12_mends_116 hl (k := 6) rfl rfl (by decide) rfl (fun ls hl => ?_)
      refine lv_goto (tgt := 58) hx hb dX12_mends_119 (by decide) ?_
      exact hR v2 v3 0 (v5 + 1) M _ _ _ hM hv hw (lv_sub hl [3, 4, 5, 6, 1, 0] rfl)
    · have hv := hv.2 b18
      refine lv_iload hx hb dX12_mends_97 (lv_at hl 0 rfl) ?_
      obtain ⟨c19, hv⟩ := hv
      refine r_if_ge (tgt := 109) hx hb dX12_mends_99 (by decide) c19  (fun b20 => ?_) (fun b20 => ?_)
      · have hv := hv.1 b20
        refine r_iconst hx hb dX12_mends_109 ?_
        refine lv_goto (tgt := 114) hx hb dX12_mends_110 (by decide) ?_
        refine lv_istore (lv' := [(4, .int (iI 1)), (6, .int (iI t0)), (0, .ref (ad 1)), (1, .int (iI p1)), (2, .int (iI v2)), (3, .int (iI v3)), (5, .int (iI v5))]) hx hb dX12_mends_114 hl (by decide) rfl (fun ls hl => ?_)
        refine r_iinc (v := (v5 + 1)) (lv' := [(5, .int (iI (v5 + 1))), (4, .int (iI 1)), (6, .int (iI t0)), (0, .ref (ad 1)), (1, .int (iI p1)), (2, .int (iI v2)), (3, .int (iI v3))]) hx hb dX12_mends_116 hl (k := 6) rfl rfl (by decide) rfl (fun ls hl => ?_)
        refine lv_goto (tgt := 58) hx hb dX12_mends_119 (by decide) ?_
        exact hR v2 v3 1 (v5 + 1) M _ _ _ hM hv hw (lv_sub hl [3, 4, 5, 6, 1, 0] rfl)
      · have hv := hv.2 b20
        refine lv_iload hx hb dX12_mends_102 (lv_at hl 0 rfl) ?_
        refine r_bipush hx hb dX12_mends_104 (by decide +kernel) ?_
        refine r_icmp_ne (tgt := 113) hx hb dX12_mends_106 (by decide) c19 (by decide) (fun b21 => ?_) (fun b21 => ?_)
        · have hv := hv.1 b21
          refine r_iconst hx hb dX12_mends_113 ?_
          refine lv_istore (lv' := [(4, .int (iI 0)), (6, .int (iI t0)), (0, .ref (ad 1)), (1, .int (iI p1)), (2, .int (iI v2)), (3, .int (iI v3)), (5, .int (iI v5))]) hx hb dX12_mends_114 hl (by decide) rfl (fun ls hl => ?_)
          refine r_iinc (v := (v5 + 1)) (lv' := [(5, .int (iI (v5 + 1))), (4, .int (iI 0)), (6, .int (iI t0)), (0, .ref (ad 1)), (1, .int (iI p1)), (2, .int (iI v2)), (3, .int (iI v3))]) hx hb dX12_mends_116 hl (k := 6) rfl rfl (by decide) rfl (fun ls hl => ?_)
          refine lv_goto (tgt := 58) hx hb dX12_mends_119 (by decide) ?_
          exact hR v2 v3 0 (v5 + 1) M _ _ _ hM hv hw (lv_sub hl [3, 4, 5, 6, 1, 0] rfl)
        · have hv := hv.2 b21
          refine r_iconst hx hb dX12_mends_109 ?_
          refine lv_goto (tgt := 114) hx hb dX12_mends_110 (by decide) ?_
          refine lv_istore (lv' := [(4, .int (iI 1)), (6, .int (iI t0)), (0, .ref (ad 1)), (1, .int (iI p1)), (2, .int (iI v2)), (3, .int (iI v3)), (5, .int (iI v5))]) hx hb dX12_mends_114 hl (by decide) rfl (fun ls hl => ?_)
          refine r_iinc (v := (v5 + 1)) (lv' := [(5, .int (iI (v5 + 1))), (4, .int (iI 1)), (6, .int (iI t0)), (0, .ref (ad 1)), (1, .int (iI p1)), (2, .int (iI v2)), (3, .int (iI v3))]) hx hb dX12_mends_116 hl (k := 6) rfl rfl (by decide) rfl (fun ls hl => ?_)
          refine lv_goto (tgt := 58) hx hb dX12_mends_119 (by decide) ?_
          exact hR v2 v3 1 (v5 + 1) M _ _ _ hM hv hw (lv_sub hl [3, 4, 5, 6, 1, 0] rfl)
  have L58 : ∀ (X122 : Int → Int → Int → Mem → Prop), (∀ (v2 : Int) (v3 : Int) (v4 : Int) (M : Mem) (H : Heap) (locs : List Loc) (ls : Array Slot), MR M → X122 v2 v3 v4 M → wS D A s.heap (WM τ ad M) H locs → lv_has ls 7 [(0, .ref (ad 1)), (1, .int (iI p1)), (2, .int (iI v2)), (3, .int (iI v3)), (4, .int (iI v4))] → W p l e (rmk 8 0 0) s m args below meth c H locs 0 0 (MQ below (gQi D (EQi (WM τ ad) MR Q) A) args s 0 0 A) (F0 m 122 ls [])) → ∀ (n : Nat) (v2 : Int) (v3 : Int) (v4 : Int) (v5 : Int) (M : Mem) (H : Heap) (locs : List Loc) (ls : Array Slot), MR M → qX12_mends_L58 p1 X122 Q n v2 v3 v4 v5 M → wS D A s.heap (WM τ ad M) H locs → lv_has ls 7 [(0, .ref (ad 1)), (1, .int (iI p1)), (2, .int (iI v2)), (3, .int (iI v3)), (4, .int (iI v4)), (5, .int (iI v5))] → W p l e (rmk 8 0 0) s m args below meth c H locs 0 0 (MQ below (gQi D (EQi (WM τ ad) MR Q) A) args s 0 0 A) (F0 m 58 ls []) := by
    intro X122 hX122 n
    induction n with
    | zero => intro v2 v3 v4 v5 M H locs ls hM hv; rw [qX12_mends_L58] at hv; exact hv.elim
    | succ n ih =>
      intro v2 v3 v4 v5 M H locs ls hM hv hw hl
      rw [qX12_mends_L58] at hv
      refine lv_iload hx hb dX12_mends_58 (lv_at hl 5 rfl) ?_
      refine lv_aload_n hx hb dX12_mends_60 rfl (lv_at hl 0 rfl) ?_
      refine gf_X12_129 hx hb hC hw 1 (gM_1 τ ad M) rfl dX12_mends_61 ?_
      refine r_top (fun x11 e11 => ?_)
      have g11 : iR x11 := by rw [e11]; exact hM.get (by decide) _
      have hv := hv x11 e11 g11
      obtain ⟨c12, hv⟩ := hv
      refine r_icmp_ge (tgt := 122) hx hb dX12_mends_64 (by decide) c12 g11 (fun b13 => ?_) (fun b13 => ?_)
      · have hv := hv.1 b13
        exact hX122 v2 v3 v4 M _ _ _ hM hv hw (lv_sub hl [0, 1, 2, 3, 4] rfl)
      · have hv := hv.2 b13
        refine lv_iload_n hx hb dX12_mends_67 rfl (lv_at hl 3 rfl) ?_
        refine lv_iload hx hb dX12_mends_68 (lv_at hl 5 rfl) ?_
        obtain ⟨c14, hv⟩ := hv
        refine k_cSz (wq_M τ ad) hx hb hml hC hLS hA hw hl.1 (mX12_has l D τ ad sA sV _ v3 v5 c14 c12 M hM _ hv) kX12_has ml_X12_411 rfl rfl (Nat.le_of_ble_eq_true rfl) (rm_ok (by decide) (by decide)) ⟨Nat.zero_le _, Nat.zero_le _⟩ dX12_mends_70 (fun x15 M15 H locs g15 z15 hM hv hw => ?_)
        have hv := hv g15 z15
        refine r_if_eq (tgt := 89) hx hb dX12_mends_73 (by decide) g15  (fun b16 => ?_) (fun b16 => ?_)
        · have hv := hv.1 b16
          refine r_iconst hx hb dX12_mends_89 ?_
          exact J90 _ ih _ hX122 v2 v3 v4 v5 0 M15 _ _ _ hM hv hw (lv_sub hl [0, 1, 2, 3, 4, 5] rfl)
        · have hv := hv.2 b16
          refine lv_aload_n hx hb dX12_mends_76 rfl (lv_at hl 0 rfl) ?_
          refine lv_aload_n hx hb dX12_mends_77 rfl (lv_at hl 0 rfl) ?_
          refine gf_X12_34 hx hb hC hw 1 (gM_1 τ ad M15) rfl dX12_mends_78 ?_
          refine lv_iload hx hb dX12_mends_81 (lv_at hl 5 rfl) ?_
          refine k_cVi (wq_M τ ad) hx hb hml hC hLS hA hw hl.1 (mX12_turnsOne l D τ ad sA sV _ 6 v5 aM_6 c12 M15 hM _ hv) kX12_turnsOne ml_X12_362 rfl (gM_1 τ ad M15) rfl rfl (Nat.le_of_ble_eq_true rfl) (rm_ok (by decide) (by decide)) ⟨Nat.zero_le _, Nat.zero_le _⟩ dX12_mends_83 (fun x22 M22 H locs g22 hM hv hw => ?_)
          have hv := hv g22
          refine lv_goto (tgt := 90) hx hb dX12_mends_86 (by decide) ?_
          exact J90 _ ih _ hX122 v2 v3 v4 v5 x22 M22 _ _ _ hM hv hw (lv_sub hl [0, 1, 2, 3, 4, 5] rfl)
  have J48 : ∀ (R : Int → Int → Mem → Prop), (∀ (v2 : Int) (v3 : Int) (M : Mem) (H : Heap) (locs : List Loc) (ls : Array Slot), MR M → R v2 v3 M → wS D A s.heap (WM τ ad M) H locs → lv_has ls 7 [(0, .ref (ad 1)), (1, .int (iI p1)), (2, .int (iI v2)), (3, .int (iI v3))] → W p l e (rmk 8 0 0) s m args below meth c H locs 0 0 (MQ below (gQi D (EQi (WM τ ad) MR Q) A) args s 0 0 A) (F0 m 23 ls [])) → ∀ (X150 : Int → Mem → Prop), (∀ (v2 : Int) (M : Mem) (H : Heap) (locs : List Loc) (ls : Array Slot), MR M → X150 v2 M → wS D A s.heap (WM τ ad M) H locs → lv_has ls 7 [(0, .ref (ad 1)), (2, .int (iI v2))] → W p l e (rmk 8 0 0) s m args below meth c H locs 0 0 (MQ below (gQi D (EQi (WM τ ad) MR Q) A) args s 0 0 A) (F0 m 150 ls [])) → ∀ (v2 : Int) (v3 : Int) (M : Mem) (H : Heap) (locs : List Loc) (ls : Array Slot), MR M → qX12_mends_J48 p1 R X150 Q v2 v3 M → wS D A s.heap (WM τ ad M) H locs → lv_has ls 7 [(0, .ref (ad 1)), (1, .int (iI p1)), (2, .int (iI v2)), (3, .int (iI v3))] → W p l e (rmk 8 0 0) s m args below meth c H locs 0 0 (MQ below (gQi D (EQi (WM τ ad) MR Q) A) args s 0 0 A) (F0 m 48 ls []) := by
    intro R hR X150 hX150 v2 v3 M H locs ls hM hv hw hl
    unfold qX12_mends_J48 at hv
    refine lv_aload_n hx hb dX12_mends_48 rfl (lv_at hl 0 rfl) ?_
    refine k_cVv (wq_M τ ad) hx hb hml hC hLS hA hw hl.1 (mX12_copies l D τ ad sA sV _   M hM _ hv) kX12_copies ml_X12_390 rfl (gM_1 τ ad M) rfl rfl (Nat.le_of_ble_eq_true rfl) (rm_ok (by decide) (by decide)) ⟨Nat.zero_le _, Nat.zero_le _⟩ dX12_mends_49 (fun M10 H locs hM hv hw => ?_)
    refine r_iconst hx hb dX12_mends_52 ?_
    refine lv_istore (lv' := [(4, .int (iI 1)), (0, .ref (ad 1)), (1, .int (iI p1)), (2, .int (iI v2)), (3, .int (iI v3))]) hx hb dX12_mends_53 hl (by decide) rfl (fun ls hl => ?_)
    refine r_iconst hx hb dX12_mends_55 ?_
    refine lv_istore (lv' := [(5, .int (iI 0)), (4, .int (iI 1)), (0, .ref (ad 1)), (1, .int (iI p1)), (2, .int (iI v2)), (3, .int (iI v3))]) hx hb dX12_mends_56 hl (by decide) rfl (fun ls hl => ?_)
    obtain ⟨n23, hv⟩ := hv
    refine L58 _ ?_ n23 v2 v3 1 0 M10 _ _ _ hM hv hw (lv_sub hl [2, 3, 4, 5, 1, 0] rfl)
    · intro v2 v3 v4 M H locs ls hM hv hw hl
      refine lv_iload hx hb dX12_mends_122 (lv_at hl 4 rfl) ?_
      obtain ⟨c24, hv⟩ := hv
      refine r_if_eq (tgt := 142) hx hb dX12_mends_124 (by decide) c24  (fun b25 => ?_) (fun b25 => ?_)
      · have hv := hv.1 b25
        refine lv_iload_n hx hb dX12_mends_142 rfl (lv_at hl 2 rfl) ?_
        refine lv_istore_n (lv' := [(2, .int (iI v2)), (0, .ref (ad 1)), (1, .int (iI p1)), (3, .int (iI v3)), (4, .int (iI v4))]) hx hb dX12_mends_143 rfl hl (by decide) rfl (fun ls hl => ?_)
        refine r_iinc (v := (v3 + 1)) (lv' := [(3, .int (iI (v3 + 1))), (2, .int (iI v2)), (0, .ref (ad 1)), (1, .int (iI p1)), (4, .int (iI v4))]) hx hb dX12_mends_144 hl (k := 3) rfl rfl (by decide) rfl (fun ls hl => ?_)
        refine lv_goto (tgt := 23) hx hb dX12_mends_147 (by decide) ?_
        exact hR v2 (v3 + 1) M _ _ _ hM hv hw (lv_sub hl [2, 3, 1, 0] rfl)
      · have hv := hv.2 b25
        refine lv_aload_n hx hb dX12_mends_127 rfl (lv_at hl 0 rfl) ?_
        refine k_cVi (wq_M τ ad) hx hb hml hC hLS hA hw hl.1 (mX12_rightThen l D τ ad sA sV _   M hM _ hv) kX12_rightThen ml_X12_401 rfl (gM_1 τ ad M) rfl rfl (Nat.le_of_ble_eq_true rfl) (rm_ok (by decide) (by decide)) ⟨Nat.zero_le _, Nat.zero_le _⟩ dX12_mends_128 (fun x26 M26 H locs g26 hM hv hw => ?_)
        have hv := hv g26
        refine k_cSi (wq_M τ ad) hx hb hml hC hLS hA hw hl.1 (mJ6_bitCount_0f7a4M l D τ ad sA sV _ x26 g26 M26 hM _ hv) kJ6_bitCount_0f7a4 ml_X12_279 rfl rfl (Nat.le_of_ble_eq_true rfl) (rm_ok (by decide) (by decide)) ⟨Nat.zero_le _, Nat.zero_le _⟩ dX12_mends_131 (fun x27 M27 H locs g27 hM hv hw => ?_)
        have hv := hv g27
        refine lv_iload_n hx hb dX12_mends_134 rfl (lv_at hl 1 rfl) ?_
        refine r_icmp_lt (tgt := 142) hx hb dX12_mends_135 (by decide) g27 hp1 (fun b28 => ?_) (fun b28 => ?_)
        · have hv := hv.1 b28
          refine lv_iload_n hx hb dX12_mends_142 rfl (lv_at hl 2 rfl) ?_
          refine lv_istore_n (lv' := [(2, .int (iI v2)), (0, .ref (ad 1)), (1, .int (iI p1)), (3, .int (iI v3)), (4, .int (iI v4))]) hx hb dX12_mends_143 rfl hl (by decide) rfl (fun ls hl => ?_)
          refine r_iinc (v := (v3 + 1)) (lv' := [(3, .int (iI (v3 + 1))), (2, .int (iI v2)), (0, .ref (ad 1)), (1, .int (iI p1)), (4, .int (iI v4))]) hx hb dX12_mends_144 hl (k := 3) rfl rfl (by decide) rfl (fun ls hl => ?_)
          refine lv_goto (tgt := 23) hx hb dX12_mends_147 (by decide) ?_
          exact hR v2 (v3 + 1) M27 _ _ _ hM hv hw (lv_sub hl [2, 3, 1, 0] rfl)
        · have hv := hv.2 b28
          refine lv_iload_n hx hb dX12_mends_138 rfl (lv_at hl 3 rfl) ?_
          refine lv_goto (tgt := 143) hx hb dX12_mends_139 (by decide) ?_
          refine lv_istore_n (lv' := [(2, .int (iI v3)), (0, .ref (ad 1)), (1, .int (iI p1)), (3, .int (iI v3)), (4, .int (iI v4))]) hx hb dX12_mends_143 rfl hl (by decide) rfl (fun ls hl => ?_)
          refine r_iinc (v := (v3 + 1)) (lv' := [(3, .int (iI (v3 + 1))), (2, .int (iI v3)), (0, .ref (ad 1)), (1, .int (iI p1)), (4, .int (iI v4))]) hx hb dX12_mends_144 hl (k := 3) rfl rfl (by decide) rfl (fun ls hl => ?_)
          refine lv_goto (tgt := 23) hx hb dX12_mends_147 (by decide) ?_
          exact hR v3 (v3 + 1) M27 _ _ _ hM hv hw (lv_sub hl [2, 3, 1, 0] rfl)
  have L23 : ∀ (X150 : Int → Mem → Prop), (∀ (v2 : Int) (M : Mem) (H : Heap) (locs : List Loc) (ls : Array Slot), MR M → X150 v2 M → wS D A s.heap (WM τ ad M) H locs → lv_has ls 7 [(0, .ref (ad 1)), (2, .int (iI v2))] → W p l e (rmk 8 0 0) s m args below meth c H locs 0 0 (MQ below (gQi D (EQi (WM τ ad) MR Q) A) args s 0 0 A) (F0 m 150 ls [])) → ∀ (n : Nat) (v2 : Int) (v3 : Int) (M : Mem) (H : Heap) (locs : List Loc) (ls : Array Slot), MR M → qX12_mends_L23 p1 X150 Q n v2 v3 M → wS D A s.heap (WM τ ad M) H locs → lv_has ls 7 [(0, .ref (ad 1)), (1, .int (iI p1)), (2, .int (iI v2)), (3, .int (iI v3))] → W p l e (rmk 8 0 0) s m args below meth c H locs 0 0 (MQ below (gQi D (EQi (WM τ ad) MR Q) A) args s 0 0 A) (F0 m 23 ls []) := by
    intro X150 hX150 n
    induction n with
    | zero => intro v2 v3 M H locs ls hM hv; rw [qX12_mends_L23] at hv; exact hv.elim
    | succ n ih =>
      intro v2 v3 M H locs ls hM hv hw hl
      rw [qX12_mends_L23] at hv
      refine lv_iload_n hx hb dX12_mends_23 rfl (lv_at hl 3 rfl) ?_
      refine r_iconst hx hb dX12_mends_24 ?_
      refine lv_aload_n hx hb dX12_mends_25 rfl (lv_at hl 0 rfl) ?_
      refine gf_X12_129 hx hb hC hw 1 (gM_1 τ ad M) rfl dX12_mends_26 ?_
      refine r_top (fun x4 e4 => ?_)
      have g4 : iR x4 := by rw [e4]; exact hM.get (by decide) _
      have hv := hv x4 e4 g4
      refine r_ishlF hx hb dX12_mends_29 (fun x5 e5 g5 => ?_)
      have hv := hv x5 e5 g5
      obtain ⟨c6, hv⟩ := hv
      refine r_icmp_ge (tgt := 150) hx hb dX12_mends_30 (by decide) c6 g5 (fun b7 => ?_) (fun b7 => ?_)
      · have hv := hv.1 b7
        exact hX150 v2 M _ _ _ hM hv hw (lv_sub hl [0, 2] rfl)
      · have hv := hv.2 b7
        refine lv_iload_n hx hb dX12_mends_33 rfl (lv_at hl 2 rfl) ?_
        obtain ⟨c8, hv⟩ := hv
        refine r_if_lt (tgt := 48) hx hb dX12_mends_34 (by decide) c8  (fun b9 => ?_) (fun b9 => ?_)
        · have hv := hv.1 b9
          exact J48 _ ih _ hX150 v2 v3 M _ _ _ hM hv hw (lv_sub hl [0, 1, 2, 3] rfl)
        · have hv := hv.2 b9
          refine lv_iload_n hx hb dX12_mends_37 rfl (lv_at hl 3 rfl) ?_
          refine k_cSi (wq_M τ ad) hx hb hml hC hLS hA hw hl.1 (mJ6_bitCount_0f7a4M l D τ ad sA sV _ v3 c6 M hM _ hv) kJ6_bitCount_0f7a4 ml_X12_279 rfl rfl (Nat.le_of_ble_eq_true rfl) (rm_ok (by decide) (by decide)) ⟨Nat.zero_le _, Nat.zero_le _⟩ dX12_mends_38 (fun x29 M29 H locs g29 hM hv hw => ?_)
          have hv := hv g29
          refine lv_iload_n hx hb dX12_mends_41 rfl (lv_at hl 2 rfl) ?_
          refine k_cSi (wq_M τ ad) hx hb hml hC hLS hA hw hl.1 (mJ6_bitCount_0f7a4M l D τ ad sA sV _ v2 c8 M29 hM _ hv) kJ6_bitCount_0f7a4 ml_X12_279 rfl rfl (Nat.le_of_ble_eq_true rfl) (rm_ok (by decide) (by decide)) ⟨Nat.zero_le _, Nat.zero_le _⟩ dX12_mends_42 (fun x30 M30 H locs g30 hM hv hw => ?_)
          have hv := hv g30
          refine r_icmp_ge (tgt := 144) hx hb dX12_mends_45 (by decide) g29 g30 (fun b31 => ?_) (fun b31 => ?_)
          · have hv := hv.1 b31
            refine r_iinc (v := (v3 + 1)) (lv' := [(3, .int (iI (v3 + 1))), (0, .ref (ad 1)), (1, .int (iI p1)), (2, .int (iI v2))]) hx hb dX12_mends_144 hl (k := 3) rfl rfl (by decide) rfl (fun ls hl => ?_)
            refine lv_goto (tgt := 23) hx hb dX12_mends_147 (by decide) ?_
            exact ih v2 (v3 + 1) M30 _ _ _ hM hv hw (lv_sub hl [1, 2, 3, 0] rfl)
          · have hv := hv.2 b31
            exact J48 _ ih _ hX150 v2 v3 M30 _ _ _ hM hv hw (lv_sub hl [0, 1, 2, 3] rfl)
  refine lv_aload_n hx hb dX12_mends_0 rfl (lv_at hl 0 rfl) ?_
  refine r_iconst hx hb dX12_mends_1 ?_
  obtain ⟨M1, e1⟩ : ∃ M1 : Mem, M1 = up2 M 1 0 0 := ⟨_, rfl⟩
  have hv := hv M1 e1
  refine pf_X12_112 (ws' := (WM τ ad M1)) hx hb hC hw 1 (gM_1 τ ad M) (Nat.le_of_ble_eq_true rfl) (by rw [e1]; exact sM_1_0 τ ad M _) dX12_mends_2 (fun H locs hw => ?_)
  have hM : MR M1 := by rw [e1]; exact hM.put (by decide) (by decide)
  refine lv_iload_n hx hb dX12_mends_5 rfl (lv_at hl 1 rfl) ?_
  refine r_i2l hx hb dX12_mends_6 hp1 ?_
  refine r_lconst (z := 0) hx hb dX12_mends_7 (by decide +kernel) ?_
  refine r_ldc2 (z := 8) hx hb hC ct_X12_415 (by decide +kernel) dX12_mends_8 ?_
  refine k_cSz (wq_M τ ad) hx hb hml hC hLS hA hw hl.1 (mX12_in l D τ ad sA sV _ p1 0 8 (iR_lR hp1) (by decide) (by decide) M1 hM _ hv) kX12_in ml_X12_125 rfl rfl (Nat.le_of_ble_eq_true rfl) (rm_ok (by decide) (by decide)) ⟨Nat.zero_le _, Nat.zero_le _⟩ dX12_mends_11 (fun x2 M2 H locs g2 z2 hM hv hw => ?_)
  have hv := hv g2 z2
  refine r_if_ne (tgt := 19) hx hb dX12_mends_14 (by decide) g2  (fun b3 => ?_) (fun b3 => ?_)
  · have hv := hv.1 b3
    refine r_iconst hx hb dX12_mends_19 ?_
    refine lv_istore_n (lv' := [(2, .int (iI (-1))), (0, .ref (ad 1)), (1, .int (iI p1))]) hx hb dX12_mends_20 rfl hl (by decide) rfl (fun ls hl => ?_)
    refine r_iconst hx hb dX12_mends_21 ?_
    refine lv_istore_n (lv' := [(3, .int (iI 0)), (2, .int (iI (-1))), (0, .ref (ad 1)), (1, .int (iI p1))]) hx hb dX12_mends_22 rfl hl (by decide) rfl (fun ls hl => ?_)
    obtain ⟨n32, hv⟩ := hv
    refine L23 _ ?_ n32 (-1) 0 M2 _ _ _ hM hv hw (lv_sub hl [2, 3, 1, 0] rfl)
    · intro v2 M H locs ls hM hv hw hl
      refine lv_iload_n hx hb dX12_mends_150 rfl (lv_at hl 1 rfl) ?_
      obtain ⟨c33, hv⟩ := hv
      refine r_if_ge (tgt := 157) hx hb dX12_mends_151 (by decide) c33  (fun b34 => ?_) (fun b34 => ?_)
      · have hv := hv.1 b34
        refine lv_aload_n hx hb dX12_mends_157 rfl (lv_at hl 0 rfl) ?_
        refine r_iconst hx hb dX12_mends_158 ?_
        obtain ⟨M35, e35⟩ : ∃ M35 : Mem, M35 = up2 M 1 1 0 := ⟨_, rfl⟩
        have hv := hv M35 e35
        refine pf_X12_119 (ws' := (WM τ ad M35)) hx hb hC hw 1 (gM_1 τ ad M) (Nat.le_of_ble_eq_true rfl) (by rw [e35]; exact sM_1_1 τ ad M _) dX12_mends_159 (fun H locs hw => ?_)
        have hM : MR M35 := by rw [e35]; exact hM.put (by decide) (by decide)
        refine lv_aload_n hx hb dX12_mends_162 rfl (lv_at hl 0 rfl) ?_
        refine lv_iload_n hx hb dX12_mends_163 rfl (lv_at hl 1 rfl) ?_
        refine r_i2l hx hb dX12_mends_164 c33 ?_
        refine k_cVv (wq_M τ ad) hx hb hml hC hLS hA hw hl.1 (mX12_enters l D τ ad sA sV _ v2 (iR_lR c33) M35 hM _ hv) kX12_enters ml_X12_358 rfl (gM_1 τ ad M35) rfl rfl (Nat.le_of_ble_eq_true rfl) (rm_ok (by decide) (by decide)) ⟨Nat.zero_le _, Nat.zero_le _⟩ dX12_mends_165 (fun M36 H locs hM hv hw => ?_)
        refine lv_iload_n hx hb dX12_mends_168 rfl (lv_at hl 1 rfl) ?_
        refine k_cSi (wq_M τ ad) hx hb hml hC hLS hA hw hl.1 (mJ6_bitCount_0f7a4M l D τ ad sA sV _ v2 c33 M36 hM _ hv) kJ6_bitCount_0f7a4 ml_X12_279 rfl rfl (Nat.le_of_ble_eq_true rfl) (rm_ok (by decide) (by decide)) ⟨Nat.zero_le _, Nat.zero_le _⟩ dX12_mends_169 (fun x37 M37 H locs g37 hM hv hw => ?_)
        have hv := hv g37
        exact k_iret (wq_M τ ad) hx hb hr hlk hw hM g37 hv dX12_mends_172
      · have hv := hv.2 b34
        refine r_bipush hx hb dX12_mends_154 (by decide +kernel) ?_
        exact k_iret (wq_M τ ad) hx hb hr hlk hw hM (by decide) hv dX12_mends_156
  · have hv := hv.2 b3
    refine r_iconst hx hb dX12_mends_17 ?_
    exact k_iret (wq_M τ ad) hx hb hr hlk hw hM (by decide) hv dX12_mends_18
set_option maxHeartbeats 4000000 in
set_option maxRecDepth 100000 in
theorem mX12_misleads (l : Launch) (D : va_G) (τ : Nat → ClassId) (ad : Nat → Nat) (sA sV : Nat → Nat) (sz : Nat)   (M : Mem) (hM : MR M) (Q : Int → Mem → Prop) (hv : qX12_misleads  M Q) : Met l yX12_misleads (lw_w yX12_misleads cX12_misleads 6 (some .int)) (rmk 8 0 0) (kPc D τ sA sV (WM τ ad M) sz [.ref (ad 1)]) (gQi D (EQi (WM τ ad) MR Q) (va_A (WM τ ad M) sz)) 0 0 (va_A (WM τ ad M) sz) := by
  refine k_met (ret := (some .int)) (Qc := gQi D (EQi (WM τ ad) MR Q)) (by decide +kernel) (Nat.le_of_ble_eq_true rfl) ?_
  intro p e s m args below meth c A ls hx hb hml hr hlk hnm hC hLS hA hw hl
  have hC : cx D τ s m args RX12 := hC
  have hl : lv_has ls 6 [(0, .ref (ad 1))] := hl
  unfold qX12_misleads at hv
  have J117 : ∀ (R : Int → Int → Int → Int → Int → Mem → Prop), (∀ (v1 : Int) (v2 : Int) (v3 : Int) (v4 : Int) (v5 : Int) (M : Mem) (H : Heap) (locs : List Loc) (ls : Array Slot), MR M → R v1 v2 v3 v4 v5 M → wS D A s.heap (WM τ ad M) H locs → lv_has ls 6 [(0, .ref (ad 1)), (1, .int (iI v1)), (2, .int (iI v2)), (3, .int (iI v3)), (4, .int (iI v4)), (5, .int (iI v5))] → W p l e (rmk 8 0 0) s m args below meth c H locs 0 0 (MQ below (gQi D (EQi (WM τ ad) MR Q) A) args s 0 0 A) (F0 m 58 ls [])) → ∀ (X124 : Int → Int → Int → Int → Mem → Prop), (∀ (v1 : Int) (v2 : Int) (v3 : Int) (v4 : Int) (M : Mem) (H : Heap) (locs : List Loc) (ls : Array Slot), MR M → X124 v1 v2 v3 v4 M → wS D A s.heap (WM τ ad M) H locs → lv_has ls 6 [(0, .ref (ad 1)), (1, .int (iI v1)), (2, .int (iI v2)), (3, .int (iI v3)), (4, .int (iI v4))] → W p l e (rmk 8 0 0) s m args below meth c H locs 0 0 (MQ below (gQi D (EQi (WM τ ad) MR Q) A) args s 0 0 A) (F0 m 124 ls [])) → ∀ (v1 : Int) (v2 : Int) (v3 : Int) (v4 : Int) (v5 : Int) (t0 : Int) (t1 : Int) (M : Mem) (H : Heap) (locs : List Loc) (ls : Array Slot), MR M → qX12_misleads_J117  R X124 Q v1 v2 v3 v4 v5 t0 t1 M → wS D A s.heap (WM τ ad M) H locs → lv_has ls 6 [(0, .ref (ad 1)), (1, .int (iI v1)), (2, .int (iI v2)), (3, .int (iI v3)), (4, .int (iI v4)), (5, .int (iI v5))] → W p l e (rmk 8 0 0) s m args below meth c H locs 0 0 (MQ below (gQi D (EQi (WM τ ad) MR Q) A) args s 0 0 A) (F0 m 117 ls [.int (iI t0), .int (iI t1), .ref (ad 6)]) := by
    intro R hR X124 hX124 v1 v2 v3 v4 v5 t0 t1 M H locs ls hM hv hw hl
    unfold qX12_misleads_J117 at hv
    obtain ⟨c21, hv⟩ := hv
    obtain ⟨c22, hv⟩ := hv
    obtain ⟨c23, hv⟩ := hv
    obtain ⟨M24, e24⟩ : ∃ M24 : Mem, M24 = up2 M 6 t1 t0 := ⟨_, rfl⟩
    have hv := hv M24 e24
    refine r_iast (ws' := (WM τ ad M24)) hx hb hC hw 6 (gI_M aM_6 τ ad M) c21 c22 (by decide) (by rw [e24]; exact sI_M aM_6 τ ad M _ _) dX12_misleads_117 (fun H locs hw => ?_)
    have hM : MR M24 := by rw [e24]; exact hM.put aM_6.pos c23
    refine r_iinc (v := (v5 + 1)) (lv' := [(5, .int (iI (v5 + 1))), (0, .ref (ad 1)), (1, .int (iI v1)), (2, .int (iI v2)), (3, .int (iI v3)), (4, .int (iI v4))]) hx hb dX12_misleads_118 hl (k := 5) rfl rfl (by decide) rfl (fun ls hl => ?_)
    refine lv_goto (tgt := 58) hx hb dX12_misleads_121 (by decide) ?_
    exact hR v1 v2 v3 v4 (v5 + 1) M24 _ _ _ hM hv hw (lv_sub hl [1, 2, 3, 4, 5, 0] rfl)
  have J107 : ∀ (R : Int → Int → Int → Int → Int → Mem → Prop), (∀ (v1 : Int) (v2 : Int) (v3 : Int) (v4 : Int) (v5 : Int) (M : Mem) (H : Heap) (locs : List Loc) (ls : Array Slot), MR M → R v1 v2 v3 v4 v5 M → wS D A s.heap (WM τ ad M) H locs → lv_has ls 6 [(0, .ref (ad 1)), (1, .int (iI v1)), (2, .int (iI v2)), (3, .int (iI v3)), (4, .int (iI v4)), (5, .int (iI v5))] → W p l e (rmk 8 0 0) s m args below meth c H locs 0 0 (MQ below (gQi D (EQi (WM τ ad) MR Q) A) args s 0 0 A) (F0 m 58 ls [])) → ∀ (X124 : Int → Int → Int → Int → Mem → Prop), (∀ (v1 : Int) (v2 : Int) (v3 : Int) (v4 : Int) (M : Mem) (H : Heap) (locs : List Loc) (ls : Array Slot), MR M → X124 v1 v2 v3 v4 M → wS D A s.heap (WM τ ad M) H locs → lv_has ls 6 [(0, .ref (ad 1)), (1, .int (iI v1)), (2, .int (iI v2)), (3, .int (iI v3)), (4, .int (iI v4))] → W p l e (rmk 8 0 0) s m args below meth c H locs 0 0 (MQ below (gQi D (EQi (WM τ ad) MR Q) A) args s 0 0 A) (F0 m 124 ls [])) → ∀ (v1 : Int) (v2 : Int) (v3 : Int) (v4 : Int) (v5 : Int) (t0 : Int) (M : Mem) (H : Heap) (locs : List Loc) (ls : Array Slot), MR M → qX12_misleads_J107  R X124 Q v1 v2 v3 v4 v5 t0 M → wS D A s.heap (WM τ ad M) H locs → lv_has ls 6 [(0, .ref (ad 1)), (1, .int (iI v1)), (2, .int (iI v2)), (3, .int (iI v3)), (4, .int (iI v4)), (5, .int (iI v5))] → W p l e (rmk 8 0 0) s m args below meth c H locs 0 0 (MQ below (gQi D (EQi (WM τ ad) MR Q) A) args s 0 0 A) (F0 m 107 ls [.int (iI t0), .ref (ad 6)]) := by
    intro R hR X124 hX124 v1 v2 v3 v4 v5 t0 M H locs ls hM hv hw hl
    unfold qX12_misleads_J107 at hv
    refine lv_aload_n hx hb dX12_misleads_107 rfl (lv_at hl 0 rfl) ?_
    refine gf_X12_34 hx hb hC hw 1 (gM_1 τ ad M) rfl dX12_misleads_108 ?_
    refine r_bipush hx hb dX12_misleads_111 (by decide +kernel) ?_
    refine lv_iload hx hb dX12_misleads_113 (lv_at hl 5 rfl) ?_
    refine r_iadd (z := (21 + v5)) hx hb dX12_misleads_115 rfl ?_
    obtain ⟨c18, hv⟩ := hv
    obtain ⟨c19, hv⟩ := hv
    refine r_iald hx hb hC hw 6 (gI_M aM_6 τ ad M) c18 c19 (by decide) dX12_misleads_116 ?_
    refine r_top (fun x20 e20 => ?_)
    have g20 : iR x20 := by rw [e20]; exact hM.get aM_6.pos _
    have hv := hv x20 e20 g20
    exact J117 _ hR _ hX124 v1 v2 v3 v4 v5 x20 t0 M _ _ _ hM hv hw (lv_sub hl [0, 1, 2, 3, 4, 5] rfl)
  have L58 : ∀ (X124 : Int → Int → Int → Int → Mem → Prop), (∀ (v1 : Int) (v2 : Int) (v3 : Int) (v4 : Int) (M : Mem) (H : Heap) (locs : List Loc) (ls : Array Slot), MR M → X124 v1 v2 v3 v4 M → wS D A s.heap (WM τ ad M) H locs → lv_has ls 6 [(0, .ref (ad 1)), (1, .int (iI v1)), (2, .int (iI v2)), (3, .int (iI v3)), (4, .int (iI v4))] → W p l e (rmk 8 0 0) s m args below meth c H locs 0 0 (MQ below (gQi D (EQi (WM τ ad) MR Q) A) args s 0 0 A) (F0 m 124 ls [])) → ∀ (n : Nat) (v1 : Int) (v2 : Int) (v3 : Int) (v4 : Int) (v5 : Int) (M : Mem) (H : Heap) (locs : List Loc) (ls : Array Slot), MR M → qX12_misleads_L58  X124 Q n v1 v2 v3 v4 v5 M → wS D A s.heap (WM τ ad M) H locs → lv_has ls 6 [(0, .ref (ad 1)), (1, .int (iI v1)), (2, .int (iI v2)), (3, .int (iI v3)), (4, .int (iI v4)), (5, .int (iI v5))] → W p l e (rmk 8 0 0) s m args below meth c H locs 0 0 (MQ below (gQi D (EQi (WM τ ad) MR Q) A) args s 0 0 A) (F0 m 58 ls []) := by
    intro X124 hX124 n
    induction n with
    | zero => intro v1 v2 v3 v4 v5 M H locs ls hM hv; rw [qX12_misleads_L58] at hv; exact hv.elim
    | succ n ih =>
      intro v1 v2 v3 v4 v5 M H locs ls hM hv hw hl
      rw [qX12_misleads_L58] at hv
      refine lv_iload hx hb dX12_misleads_58 (lv_at hl 5 rfl) ?_
      refine lv_aload_n hx hb dX12_misleads_60 rfl (lv_at hl 0 rfl) ?_
      refine gf_X12_129 hx hb hC hw 1 (gM_1 τ ad M) rfl dX12_misleads_61 ?_
      refine r_top (fun x13 e13 => ?_)
      have g13 : iR x13 := by rw [e13]; exact hM.get (by decide) _
      have hv := hv x13 e13 g13
      obtain ⟨c14, hv⟩ := hv
      refine r_icmp_ge (tgt := 124) hx hb dX12_misleads_64 (by decide) c14 g13 (fun b15 => ?_) (fun b15 => ?_)
      · have hv := hv.1 b15
        exact hX124 v1 v2 v3 v4 M _ _ _ hM hv hw (lv_sub hl [0, 1, 2, 3, 4] rfl)
      · have hv := hv.2 b15
        refine lv_aload_n hx hb dX12_misleads_67 rfl (lv_at hl 0 rfl) ?_
        refine gf_X12_34 hx hb hC hw 1 (gM_1 τ ad M) rfl dX12_misleads_68 ?_
        refine r_bipush hx hb dX12_misleads_71 (by decide +kernel) ?_
        refine lv_iload hx hb dX12_misleads_73 (lv_at hl 5 rfl) ?_
        refine r_iadd (z := (21 + v5)) hx hb dX12_misleads_75 rfl ?_
        refine lv_aload_n hx hb dX12_misleads_76 rfl (lv_at hl 0 rfl) ?_
        refine gf_X12_34 hx hb hC hw 1 (gM_1 τ ad M) rfl dX12_misleads_77 ?_
        refine lv_iload hx hb dX12_misleads_80 (lv_at hl 5 rfl) ?_
        refine k_cSz (wq_M τ ad) hx hb hml hC hLS hA hw hl.1 (mX12_isEnded l D τ ad sA sV _ 6 v5 aM_6 c14 M hM _ hv) kX12_isEnded ml_X12_132 rfl rfl (Nat.le_of_ble_eq_true rfl) (rm_ok (by decide) (by decide)) ⟨Nat.zero_le _, Nat.zero_le _⟩ dX12_misleads_82 (fun x16 M16 H locs g16 z16 hM hv hw => ?_)
        have hv := hv g16 z16
        refine r_if_ne (tgt := 107) hx hb dX12_misleads_85 (by decide) g16  (fun b17 => ?_) (fun b17 => ?_)
        · have hv := hv.1 b17
          exact J107 _ ih _ hX124 v1 v2 v3 v4 v5 (21 + v5) M16 _ _ _ hM hv hw (lv_sub hl [0, 1, 2, 3, 4, 5] rfl)
        · have hv := hv.2 b17
          refine lv_aload_n hx hb dX12_misleads_88 rfl (lv_at hl 0 rfl) ?_
          refine gf_X12_34 hx hb hC hw 1 (gM_1 τ ad M16) rfl dX12_misleads_89 ?_
          refine r_bipush hx hb dX12_misleads_92 (by decide +kernel) ?_
          refine lv_iload hx hb dX12_misleads_94 (lv_at hl 5 rfl) ?_
          refine r_iadd (z := (21 + v5)) hx hb dX12_misleads_96 rfl ?_
          obtain ⟨c25, hv⟩ := hv
          obtain ⟨c26, hv⟩ := hv
          refine r_iald hx hb hC hw 6 (gI_M aM_6 τ ad M16) c25 c26 (by decide) dX12_misleads_97 ?_
          refine r_top (fun x27 e27 => ?_)
          have g27 : iR x27 := by rw [e27]; exact hM.get aM_6.pos _
          have hv := hv x27 e27 g27
          refine lv_iload hx hb dX12_misleads_98 (lv_at hl 4 rfl) ?_
          obtain ⟨c28, hv⟩ := hv
          refine r_icmp_ne (tgt := 107) hx hb dX12_misleads_100 (by decide) g27 c28 (fun b29 => ?_) (fun b29 => ?_)
          · have hv := hv.1 b29
            exact J107 _ ih _ hX124 v1 v2 v3 v4 v5 (21 + v5) M16 _ _ _ hM hv hw (lv_sub hl [0, 1, 2, 3, 4, 5] rfl)
          · have hv := hv.2 b29
            refine r_iconst hx hb dX12_misleads_103 ?_
            refine lv_goto (tgt := 117) hx hb dX12_misleads_104 (by decide) ?_
            exact J117 _ ih _ hX124 v1 v2 v3 v4 v5 (-1) (21 + v5) M16 _ _ _ hM hv hw (lv_sub hl [0, 1, 2, 3, 4, 5] rfl)
  have J154 : ∀ (R : Int → Int → Int → Int → Mem → Prop), (∀ (v1 : Int) (v2 : Int) (v3 : Int) (v4 : Int) (M : Mem) (H : Heap) (locs : List Loc) (ls : Array Slot), MR M → R v1 v2 v3 v4 M → wS D A s.heap (WM τ ad M) H locs → lv_has ls 6 [(0, .ref (ad 1)), (1, .int (iI v1)), (2, .int (iI v2)), (3, .int (iI v3)), (4, .int (iI v4))] → W p l e (rmk 8 0 0) s m args below meth c H locs 0 0 (MQ below (gQi D (EQi (WM τ ad) MR Q) A) args s 0 0 A) (F0 m 22 ls [])) → ∀ (X168 : Int → Int → Int → Mem → Prop), (∀ (v1 : Int) (v2 : Int) (v3 : Int) (M : Mem) (H : Heap) (locs : List Loc) (ls : Array Slot), MR M → X168 v1 v2 v3 M → wS D A s.heap (WM τ ad M) H locs → lv_has ls 6 [(0, .ref (ad 1)), (1, .int (iI v1)), (2, .int (iI v2)), (3, .int (iI v3))] → W p l e (rmk 8 0 0) s m args below meth c H locs 0 0 (MQ below (gQi D (EQi (WM τ ad) MR Q) A) args s 0 0 A) (F0 m 168 ls [])) → ∀ (v1 : Int) (v3 : Int) (v4 : Int) (v5 : Int) (t0 : Int) (M : Mem) (H : Heap) (locs : List Loc) (ls : Array Slot), MR M → qX12_misleads_J154  R X168 Q v1 v3 v4 v5 t0 M → wS D A s.heap (WM τ ad M) H locs → lv_has ls 6 [(0, .ref (ad 1)), (1, .int (iI v1)), (3, .int (iI v3)), (4, .int (iI v4)), (5, .int (iI v5))] → W p l e (rmk 8 0 0) s m args below meth c H locs 0 0 (MQ below (gQi D (EQi (WM τ ad) MR Q) A) args s 0 0 A) (F0 m 154 ls [.int (iI t0)]) := by
    intro R hR X168 hX168 v1 v3 v4 v5 t0 M H locs ls hM hv hw hl
    unfold qX12_misleads_J154 at hv
    refine lv_istore_n (lv' := [(2, .int (iI t0)), (0, .ref (ad 1)), (1, .int (iI v1)), (3, .int (iI v3)), (4, .int (iI v4)), (5, .int (iI v5))]) hx hb dX12_misleads_154 rfl hl (by decide) rfl (fun ls hl => ?_)
    refine lv_iload_n hx hb dX12_misleads_155 rfl (lv_at hl 3 rfl) ?_
    refine lv_iload hx hb dX12_misleads_156 (lv_at hl 5 rfl) ?_
    obtain ⟨c39, hv⟩ := hv
    obtain ⟨c40, hv⟩ := hv
    refine r_mmaxF hx hb hml hC hl.1 ml_X12_287 sm_max in_J9 cd_max (by decide) (Nat.le_of_ble_eq_true rfl) (Nat.zero_le _) (Nat.zero_le _) c39 c40 dX12_misleads_158 (fun x41 e41 g41 => ?_)
    have hv := hv x41 e41 g41
    refine lv_istore_n (lv' := [(3, .int (iI x41)), (2, .int (iI t0)), (0, .ref (ad 1)), (1, .int (iI v1)), (4, .int (iI v4)), (5, .int (iI v5))]) hx hb dX12_misleads_161 rfl hl (by decide) rfl (fun ls hl => ?_)
    refine r_iinc (v := (v4 + 1)) (lv' := [(4, .int (iI (v4 + 1))), (3, .int (iI x41)), (2, .int (iI t0)), (0, .ref (ad 1)), (1, .int (iI v1)), (5, .int (iI v5))]) hx hb dX12_misleads_162 hl (k := 4) rfl rfl (by decide) rfl (fun ls hl => ?_)
    refine lv_goto (tgt := 22) hx hb dX12_misleads_165 (by decide) ?_
    exact hR v1 t0 x41 (v4 + 1) M _ _ _ hM hv hw (lv_sub hl [3, 4, 2, 1, 0] rfl)
  have L22 : ∀ (X168 : Int → Int → Int → Mem → Prop), (∀ (v1 : Int) (v2 : Int) (v3 : Int) (M : Mem) (H : Heap) (locs : List Loc) (ls : Array Slot), MR M → X168 v1 v2 v3 M → wS D A s.heap (WM τ ad M) H locs → lv_has ls 6 [(0, .ref (ad 1)), (1, .int (iI v1)), (2, .int (iI v2)), (3, .int (iI v3))] → W p l e (rmk 8 0 0) s m args below meth c H locs 0 0 (MQ below (gQi D (EQi (WM τ ad) MR Q) A) args s 0 0 A) (F0 m 168 ls [])) → ∀ (n : Nat) (v1 : Int) (v2 : Int) (v3 : Int) (v4 : Int) (M : Mem) (H : Heap) (locs : List Loc) (ls : Array Slot), MR M → qX12_misleads_L22  X168 Q n v1 v2 v3 v4 M → wS D A s.heap (WM τ ad M) H locs → lv_has ls 6 [(0, .ref (ad 1)), (1, .int (iI v1)), (2, .int (iI v2)), (3, .int (iI v3)), (4, .int (iI v4))] → W p l e (rmk 8 0 0) s m args below meth c H locs 0 0 (MQ below (gQi D (EQi (WM τ ad) MR Q) A) args s 0 0 A) (F0 m 22 ls []) := by
    intro X168 hX168 n
    induction n with
    | zero => intro v1 v2 v3 v4 M H locs ls hM hv; rw [qX12_misleads_L22] at hv; exact hv.elim
    | succ n ih =>
      intro v1 v2 v3 v4 M H locs ls hM hv hw hl
      rw [qX12_misleads_L22] at hv
      refine lv_iload hx hb dX12_misleads_22 (lv_at hl 4 rfl) ?_
      refine lv_aload_n hx hb dX12_misleads_24 rfl (lv_at hl 0 rfl) ?_
      refine gf_X12_122 hx hb hC hw 1 (gM_1 τ ad M) rfl dX12_misleads_25 ?_
      refine r_top (fun x4 e4 => ?_)
      have g4 : iR x4 := by rw [e4]; exact hM.get (by decide) _
      have hv := hv x4 e4 g4
      obtain ⟨c5, hv⟩ := hv
      refine r_icmp_ge (tgt := 168) hx hb dX12_misleads_28 (by decide) c5 g4 (fun b6 => ?_) (fun b6 => ?_)
      · have hv := hv.1 b6
        exact hX168 v1 v2 v3 M _ _ _ hM hv hw (lv_sub hl [0, 1, 2, 3] rfl)
      · have hv := hv.2 b6
        refine lv_aload_n hx hb dX12_misleads_31 rfl (lv_at hl 0 rfl) ?_
        refine gf_X12_31 hx hb hC hw 1 (gM_1 τ ad M) rfl dX12_misleads_32 ?_
        refine lv_iload hx hb dX12_misleads_35 (lv_at hl 4 rfl) ?_
        refine k_cSz (wq_M τ ad) hx hb hml hC hLS hA hw hl.1 (mX12_isOn l D τ ad sA sV _ 5 v4 aM_5 c5 M hM _ hv) kX12_isOn ml_X12_266 rfl rfl (Nat.le_of_ble_eq_true rfl) (rm_ok (by decide) (by decide)) ⟨Nat.zero_le _, Nat.zero_le _⟩ dX12_misleads_37 (fun x7 M7 H locs g7 z7 hM hv hw => ?_)
        have hv := hv g7 z7
        refine r_if_eq (tgt := 162) hx hb dX12_misleads_40 (by decide) g7  (fun b8 => ?_) (fun b8 => ?_)
        · have hv := hv.1 b8
          refine r_iinc (v := (v4 + 1)) (lv' := [(4, .int (iI (v4 + 1))), (0, .ref (ad 1)), (1, .int (iI v1)), (2, .int (iI v2)), (3, .int (iI v3))]) hx hb dX12_misleads_162 hl (k := 4) rfl rfl (by decide) rfl (fun ls hl => ?_)
          refine lv_goto (tgt := 22) hx hb dX12_misleads_165 (by decide) ?_
          exact ih v1 v2 v3 (v4 + 1) M7 _ _ _ hM hv hw (lv_sub hl [1, 2, 3, 4, 0] rfl)
        · have hv := hv.2 b8
          refine lv_aload_n hx hb dX12_misleads_43 rfl (lv_at hl 0 rfl) ?_
          refine k_cVv (wq_M τ ad) hx hb hml hC hLS hA hw hl.1 (mX12_copies l D τ ad sA sV _   M7 hM _ hv) kX12_copies ml_X12_390 rfl (gM_1 τ ad M7) rfl rfl (Nat.le_of_ble_eq_true rfl) (rm_ok (by decide) (by decide)) ⟨Nat.zero_le _, Nat.zero_le _⟩ dX12_misleads_44 (fun M9 H locs hM hv hw => ?_)
          refine lv_aload_n hx hb dX12_misleads_47 rfl (lv_at hl 0 rfl) ?_
          refine gf_X12_34 hx hb hC hw 1 (gM_1 τ ad M9) rfl dX12_misleads_48 ?_
          refine lv_iload hx hb dX12_misleads_51 (lv_at hl 4 rfl) ?_
          refine r_iconst hx hb dX12_misleads_53 ?_
          obtain ⟨c10, hv⟩ := hv
          obtain ⟨c11, hv⟩ := hv
          obtain ⟨M12, e12⟩ : ∃ M12 : Mem, M12 = up2 M9 6 v4 (-1) := ⟨_, rfl⟩
          have hv := hv M12 e12
          refine r_iast (ws' := (WM τ ad M12)) hx hb hC hw 6 (gI_M aM_6 τ ad M9) c10 c11 (by decide) (by rw [e12]; exact sI_M aM_6 τ ad M9 _ _) dX12_misleads_54 (fun H locs hw => ?_)
          have hM : MR M12 := by rw [e12]; exact hM.put aM_6.pos (by decide)
          refine r_iconst hx hb dX12_misleads_55 ?_
          refine lv_istore (lv' := [(5, .int (iI 0)), (0, .ref (ad 1)), (1, .int (iI v1)), (2, .int (iI v2)), (3, .int (iI v3)), (4, .int (iI v4))]) hx hb dX12_misleads_56 hl (by decide) rfl (fun ls hl => ?_)
          obtain ⟨n30, hv⟩ := hv
          refine L58 _ ?_ n30 v1 v2 v3 v4 0 M12 _ _ _ hM hv hw (lv_sub hl [1, 2, 3, 4, 5, 0] rfl)
          · intro v1 v2 v3 v4 M H locs ls hM hv hw hl
            refine lv_aload_n hx hb dX12_misleads_124 rfl (lv_at hl 0 rfl) ?_
            refine k_cVi (wq_M τ ad) hx hb hml hC hLS hA hw hl.1 (mX12_rightThen l D τ ad sA sV _   M hM _ hv) kX12_rightThen ml_X12_401 rfl (gM_1 τ ad M) rfl rfl (Nat.le_of_ble_eq_true rfl) (rm_ok (by decide) (by decide)) ⟨Nat.zero_le _, Nat.zero_le _⟩ dX12_misleads_125 (fun x31 M31 H locs g31 hM hv hw => ?_)
            have hv := hv g31
            refine lv_aload_n hx hb dX12_misleads_128 rfl (lv_at hl 0 rfl) ?_
            refine lv_iload hx hb dX12_misleads_129 (lv_at hl 4 rfl) ?_
            obtain ⟨c32, hv⟩ := hv
            refine k_cVi (wq_M τ ad) hx hb hml hC hLS hA hw hl.1 (mX12_owners l D τ ad sA sV _ v4 c32 M31 hM _ hv) kX12_owners ml_X12_305 rfl (gM_1 τ ad M31) rfl rfl (Nat.le_of_ble_eq_true rfl) (rm_ok (by decide) (by decide)) ⟨Nat.zero_le _, Nat.zero_le _⟩ dX12_misleads_131 (fun x33 M33 H locs g33 hM hv hw => ?_)
            have hv := hv g33
            refine r_iconst hx hb dX12_misleads_134 ?_
            refine r_ixorF hx hb dX12_misleads_135 (fun x34 e34 g34 => ?_)
            have hv := hv x34 e34 g34
            refine r_iandF hx hb dX12_misleads_136 (fun x35 e35 g35 => ?_)
            have hv := hv x35 e35 g35
            refine k_cSi (wq_M τ ad) hx hb hml hC hLS hA hw hl.1 (mJ6_bitCount_0f7a4M l D τ ad sA sV _ x35 g35 M33 hM _ hv) kJ6_bitCount_0f7a4 ml_X12_279 rfl rfl (Nat.le_of_ble_eq_true rfl) (rm_ok (by decide) (by decide)) ⟨Nat.zero_le _, Nat.zero_le _⟩ dX12_misleads_137 (fun x36 M36 H locs g36 hM hv hw => ?_)
            have hv := hv g36
            refine lv_istore (lv' := [(5, .int (iI x36)), (0, .ref (ad 1)), (1, .int (iI v1)), (2, .int (iI v2)), (3, .int (iI v3)), (4, .int (iI v4))]) hx hb dX12_misleads_140 hl (by decide) rfl (fun ls hl => ?_)
            refine lv_iload hx hb dX12_misleads_142 (lv_at hl 0 rfl) ?_
            refine lv_iload_n hx hb dX12_misleads_144 rfl (lv_at hl 4 rfl) ?_
            obtain ⟨c37, hv⟩ := hv
            refine r_icmp_le (tgt := 153) hx hb dX12_misleads_145 (by decide) g36 c37 (fun b38 => ?_) (fun b38 => ?_)
            · have hv := hv.1 b38
              refine lv_iload_n hx hb dX12_misleads_153 rfl (lv_at hl 3 rfl) ?_
              exact J154 _ ih _ hX168 v1 v3 v4 x36 v2 M36 _ _ _ hM hv hw (lv_sub hl [1, 2, 4, 5, 0] rfl)
            · have hv := hv.2 b38
              refine lv_iload hx hb dX12_misleads_148 (lv_at hl 5 rfl) ?_
              refine lv_goto (tgt := 154) hx hb dX12_misleads_150 (by decide) ?_
              exact J154 _ ih _ hX168 v1 v3 v4 x36 v4 M36 _ _ _ hM hv hw (lv_sub hl [1, 2, 4, 5, 0] rfl)
  refine lv_aload_n hx hb dX12_misleads_0 rfl (lv_at hl 0 rfl) ?_
  refine r_iconst hx hb dX12_misleads_1 ?_
  obtain ⟨M1, e1⟩ : ∃ M1 : Mem, M1 = up2 M 1 0 0 := ⟨_, rfl⟩
  have hv := hv M1 e1
  refine pf_X12_112 (ws' := (WM τ ad M1)) hx hb hC hw 1 (gM_1 τ ad M) (Nat.le_of_ble_eq_true rfl) (by rw [e1]; exact sM_1_0 τ ad M _) dX12_misleads_2 (fun H locs hw => ?_)
  have hM : MR M1 := by rw [e1]; exact hM.put (by decide) (by decide)
  refine lv_aload_n hx hb dX12_misleads_5 rfl (lv_at hl 0 rfl) ?_
  refine k_cVv (wq_M τ ad) hx hb hml hC hLS hA hw hl.1 (mX12_copies l D τ ad sA sV _   M1 hM _ hv) kX12_copies ml_X12_390 rfl (gM_1 τ ad M1) rfl rfl (Nat.le_of_ble_eq_true rfl) (rm_ok (by decide) (by decide)) ⟨Nat.zero_le _, Nat.zero_le _⟩ dX12_misleads_6 (fun M2 H locs hM hv hw => ?_)
  refine lv_aload_n hx hb dX12_misleads_9 rfl (lv_at hl 0 rfl) ?_
  refine k_cVi (wq_M τ ad) hx hb hml hC hLS hA hw hl.1 (mX12_rightThen l D τ ad sA sV _   M2 hM _ hv) kX12_rightThen ml_X12_401 rfl (gM_1 τ ad M2) rfl rfl (Nat.le_of_ble_eq_true rfl) (rm_ok (by decide) (by decide)) ⟨Nat.zero_le _, Nat.zero_le _⟩ dX12_misleads_10 (fun x3 M3 H locs g3 hM hv hw => ?_)
  have hv := hv g3
  refine lv_istore_n (lv' := [(1, .int (iI x3)), (0, .ref (ad 1))]) hx hb dX12_misleads_13 rfl hl (by decide) rfl (fun ls hl => ?_)
  refine r_bipush hx hb dX12_misleads_14 (by decide +kernel) ?_
  refine lv_istore_n (lv' := [(2, .int (iI (-2))), (1, .int (iI x3)), (0, .ref (ad 1))]) hx hb dX12_misleads_16 rfl hl (by decide) rfl (fun ls hl => ?_)
  refine r_iconst hx hb dX12_misleads_17 ?_
  refine lv_istore_n (lv' := [(3, .int (iI (-1))), (2, .int (iI (-2))), (1, .int (iI x3)), (0, .ref (ad 1))]) hx hb dX12_misleads_18 rfl hl (by decide) rfl (fun ls hl => ?_)
  refine r_iconst hx hb dX12_misleads_19 ?_
  refine lv_istore (lv' := [(4, .int (iI 0)), (3, .int (iI (-1))), (2, .int (iI (-2))), (1, .int (iI x3)), (0, .ref (ad 1))]) hx hb dX12_misleads_20 hl (by decide) rfl (fun ls hl => ?_)
  obtain ⟨n42, hv⟩ := hv
  refine L22 _ ?_ n42 x3 (-2) (-1) 0 M3 _ _ _ hM hv hw (lv_sub hl [4, 3, 2, 1, 0] rfl)
  · intro v1 v2 v3 M H locs ls hM hv hw hl
    refine lv_iload_n hx hb dX12_misleads_168 rfl (lv_at hl 2 rfl) ?_
    obtain ⟨c43, hv⟩ := hv
    refine r_if_lt (tgt := 200) hx hb dX12_misleads_169 (by decide) c43  (fun b44 => ?_) (fun b44 => ?_)
    · have hv := hv.1 b44
      refine lv_iload_n hx hb dX12_misleads_200 rfl (lv_at hl 2 rfl) ?_
      exact k_iret (wq_M τ ad) hx hb hr hlk hw hM c43 hv dX12_misleads_201
    · have hv := hv.2 b44
      refine lv_aload_n hx hb dX12_misleads_172 rfl (lv_at hl 0 rfl) ?_
      refine r_iconst hx hb dX12_misleads_173 ?_
      obtain ⟨M45, e45⟩ : ∃ M45 : Mem, M45 = up2 M 1 1 0 := ⟨_, rfl⟩
      have hv := hv M45 e45
      refine pf_X12_119 (ws' := (WM τ ad M45)) hx hb hC hw 1 (gM_1 τ ad M) (Nat.le_of_ble_eq_true rfl) (by rw [e45]; exact sM_1_1 τ ad M _) dX12_misleads_174 (fun H locs hw => ?_)
      have hM : MR M45 := by rw [e45]; exact hM.put (by decide) (by decide)
      refine lv_aload_n hx hb dX12_misleads_177 rfl (lv_at hl 0 rfl) ?_
      refine lv_iload_n hx hb dX12_misleads_178 rfl (lv_at hl 3 rfl) ?_
      obtain ⟨c46, hv⟩ := hv
      refine r_i2l hx hb dX12_misleads_179 c46 ?_
      refine k_cVv (wq_M τ ad) hx hb hml hC hLS hA hw hl.1 (mX12_enters l D τ ad sA sV _ v3 (iR_lR c46) M45 hM _ hv) kX12_enters ml_X12_358 rfl (gM_1 τ ad M45) rfl rfl (Nat.le_of_ble_eq_true rfl) (rm_ok (by decide) (by decide)) ⟨Nat.zero_le _, Nat.zero_le _⟩ dX12_misleads_180 (fun M47 H locs hM hv hw => ?_)
      refine lv_aload_n hx hb dX12_misleads_183 rfl (lv_at hl 0 rfl) ?_
      refine lv_iload_n hx hb dX12_misleads_184 rfl (lv_at hl 1 rfl) ?_
      refine lv_aload_n hx hb dX12_misleads_185 rfl (lv_at hl 0 rfl) ?_
      refine lv_iload_n hx hb dX12_misleads_186 rfl (lv_at hl 2 rfl) ?_
      refine k_cVi (wq_M τ ad) hx hb hml hC hLS hA hw hl.1 (mX12_owners l D τ ad sA sV _ v2 c43 M47 hM _ hv) kX12_owners ml_X12_305 rfl (gM_1 τ ad M47) rfl rfl (Nat.le_of_ble_eq_true rfl) (rm_ok (by decide) (by decide)) ⟨Nat.zero_le _, Nat.zero_le _⟩ dX12_misleads_187 (fun x48 M48 H locs g48 hM hv hw => ?_)
      have hv := hv g48
      refine r_iconst hx hb dX12_misleads_190 ?_
      refine r_ixorF hx hb dX12_misleads_191 (fun x49 e49 g49 => ?_)
      have hv := hv x49 e49 g49
      refine r_iandF hx hb dX12_misleads_192 (fun x50 e50 g50 => ?_)
      have hv := hv x50 e50 g50
      refine k_cSi (wq_M τ ad) hx hb hml hC hLS hA hw hl.1 (mJ6_bitCount_0f7a4M l D τ ad sA sV _ x50 g50 M48 hM _ hv) kJ6_bitCount_0f7a4 ml_X12_279 rfl rfl (Nat.le_of_ble_eq_true rfl) (rm_ok (by decide) (by decide)) ⟨Nat.zero_le _, Nat.zero_le _⟩ dX12_misleads_193 (fun x51 M51 H locs g51 hM hv hw => ?_)
      have hv := hv g51
      refine r_i2l hx hb dX12_misleads_196 g51 ?_
      refine k_cVv (wq_M τ ad) hx hb hml hC hLS hA hw hl.1 (mX12_enters l D τ ad sA sV _ x51 (iR_lR g51) M51 hM _ hv) kX12_enters ml_X12_358 rfl (gM_1 τ ad M51) rfl rfl (Nat.le_of_ble_eq_true rfl) (rm_ok (by decide) (by decide)) ⟨Nat.zero_le _, Nat.zero_le _⟩ dX12_misleads_197 (fun M52 H locs hM hv hw => ?_)
      refine lv_iload_n hx hb dX12_misleads_200 rfl (lv_at hl 2 rfl) ?_
      exact k_iret (wq_M τ ad) hx hb hr hlk hw hM c43 hv dX12_misleads_201
set_option maxHeartbeats 4000000 in
set_option maxRecDepth 100000 in
theorem mX12_crowd (l : Launch) (D : va_G) (τ : Nat → ClassId) (ad : Nat → Nat) (sA sV : Nat → Nat) (sz : Nat)   (M : Mem) (hM : MR M) (Q : Int → Mem → Prop) (hv : qX12_crowd  M Q) : Met l yX12_crowd (lw_w yX12_crowd cX12_crowd 3 (some .int)) (rmk 8 0 0) (kPc D τ sA sV (WM τ ad M) sz [.ref (ad 1)]) (gQi D (EQi (WM τ ad) MR Q) (va_A (WM τ ad M) sz)) 0 0 (va_A (WM τ ad M) sz) := by
  refine k_met (ret := (some .int)) (Qc := gQi D (EQi (WM τ ad) MR Q)) (by decide +kernel) (Nat.le_of_ble_eq_true rfl) ?_
  intro p e s m args below meth c A ls hx hb hml hr hlk hnm hC hLS hA hw hl
  have hC : cx D τ s m args RX12 := hC
  have hl : lv_has ls 3 [(0, .ref (ad 1))] := hl
  unfold qX12_crowd at hv
  have L34 : ∀ (X85 : Int → Mem → Prop), (∀ (v1 : Int) (M : Mem) (H : Heap) (locs : List Loc) (ls : Array Slot), MR M → X85 v1 M → wS D A s.heap (WM τ ad M) H locs → lv_has ls 3 [(0, .ref (ad 1)), (1, .int (iI v1))] → W p l e (rmk 8 0 0) s m args below meth c H locs 0 0 (MQ below (gQi D (EQi (WM τ ad) MR Q) A) args s 0 0 A) (F0 m 85 ls [])) → ∀ (n : Nat) (v1 : Int) (v2 : Int) (M : Mem) (H : Heap) (locs : List Loc) (ls : Array Slot), MR M → qX12_crowd_L34  X85 Q n v1 v2 M → wS D A s.heap (WM τ ad M) H locs → lv_has ls 3 [(0, .ref (ad 1)), (1, .int (iI v1)), (2, .int (iI v2))] → W p l e (rmk 8 0 0) s m args below meth c H locs 0 0 (MQ below (gQi D (EQi (WM τ ad) MR Q) A) args s 0 0 A) (F0 m 34 ls []) := by
    intro X85 hX85 n
    induction n with
    | zero => intro v1 v2 M H locs ls hM hv; rw [qX12_crowd_L34] at hv; exact hv.elim
    | succ n ih =>
      intro v1 v2 M H locs ls hM hv hw hl
      rw [qX12_crowd_L34] at hv
      refine lv_iload_n hx hb dX12_crowd_34 rfl (lv_at hl 2 rfl) ?_
      refine lv_aload_n hx hb dX12_crowd_35 rfl (lv_at hl 0 rfl) ?_
      refine gf_X12_122 hx hb hC hw 1 (gM_1 τ ad M) rfl dX12_crowd_36 ?_
      refine r_top (fun x6 e6 => ?_)
      have g6 : iR x6 := by rw [e6]; exact hM.get (by decide) _
      have hv := hv x6 e6 g6
      obtain ⟨c7, hv⟩ := hv
      refine r_icmp_ge (tgt := 85) hx hb dX12_crowd_39 (by decide) c7 g6 (fun b8 => ?_) (fun b8 => ?_)
      · have hv := hv.1 b8
        exact hX85 v1 M _ _ _ hM hv hw (lv_sub hl [0, 1] rfl)
      · have hv := hv.2 b8
        refine lv_aload_n hx hb dX12_crowd_42 rfl (lv_at hl 0 rfl) ?_
        refine lv_aload_n hx hb dX12_crowd_43 rfl (lv_at hl 0 rfl) ?_
        refine gf_X12_34 hx hb hC hw 1 (gM_1 τ ad M) rfl dX12_crowd_44 ?_
        refine r_bipush hx hb dX12_crowd_47 (by decide +kernel) ?_
        refine lv_iload_n hx hb dX12_crowd_49 rfl (lv_at hl 2 rfl) ?_
        refine k_cVi (wq_M τ ad) hx hb hml hC hLS hA hw hl.1 (mX12_bitsBy l D τ ad sA sV _ 6 29 v2 aM_6 (by decide) c7 M hM _ hv) kX12_bitsBy ml_X12_275 rfl (gM_1 τ ad M) rfl rfl (Nat.le_of_ble_eq_true rfl) (rm_ok (by decide) (by decide)) ⟨Nat.zero_le _, Nat.zero_le _⟩ dX12_crowd_50 (fun x9 M9 H locs g9 hM hv hw => ?_)
        have hv := hv g9
        refine k_cSi (wq_M τ ad) hx hb hml hC hLS hA hw hl.1 (mJ6_bitCount_0f7a4M l D τ ad sA sV _ x9 g9 M9 hM _ hv) kJ6_bitCount_0f7a4 ml_X12_279 rfl rfl (Nat.le_of_ble_eq_true rfl) (rm_ok (by decide) (by decide)) ⟨Nat.zero_le _, Nat.zero_le _⟩ dX12_crowd_53 (fun x10 M10 H locs g10 hM hv hw => ?_)
        have hv := hv g10
        refine lv_aload_n hx hb dX12_crowd_56 rfl (lv_at hl 0 rfl) ?_
        refine lv_aload_n hx hb dX12_crowd_57 rfl (lv_at hl 0 rfl) ?_
        refine gf_X12_34 hx hb hC hw 1 (gM_1 τ ad M10) rfl dX12_crowd_58 ?_
        refine r_bipush hx hb dX12_crowd_61 (by decide +kernel) ?_
        refine lv_iload_n hx hb dX12_crowd_63 rfl (lv_at hl 1 rfl) ?_
        obtain ⟨c11, hv⟩ := hv
        refine k_cVi (wq_M τ ad) hx hb hml hC hLS hA hw hl.1 (mX12_bitsBy l D τ ad sA sV _ 6 29 v1 aM_6 (by decide) c11 M10 hM _ hv) kX12_bitsBy ml_X12_275 rfl (gM_1 τ ad M10) rfl rfl (Nat.le_of_ble_eq_true rfl) (rm_ok (by decide) (by decide)) ⟨Nat.zero_le _, Nat.zero_le _⟩ dX12_crowd_64 (fun x12 M12 H locs g12 hM hv hw => ?_)
        have hv := hv g12
        refine k_cSi (wq_M τ ad) hx hb hml hC hLS hA hw hl.1 (mJ6_bitCount_0f7a4M l D τ ad sA sV _ x12 g12 M12 hM _ hv) kJ6_bitCount_0f7a4 ml_X12_279 rfl rfl (Nat.le_of_ble_eq_true rfl) (rm_ok (by decide) (by decide)) ⟨Nat.zero_le _, Nat.zero_le _⟩ dX12_crowd_67 (fun x13 M13 H locs g13 hM hv hw => ?_)
        have hv := hv g13
        refine r_icmp_le (tgt := 77) hx hb dX12_crowd_70 (by decide) g10 g13 (fun b14 => ?_) (fun b14 => ?_)
        · have hv := hv.1 b14
          refine lv_iload_n hx hb dX12_crowd_77 rfl (lv_at hl 1 rfl) ?_
          refine lv_istore_n (lv' := [(1, .int (iI v1)), (0, .ref (ad 1)), (2, .int (iI v2))]) hx hb dX12_crowd_78 rfl hl (by decide) rfl (fun ls hl => ?_)
          refine r_iinc (v := (v2 + 1)) (lv' := [(2, .int (iI (v2 + 1))), (1, .int (iI v1)), (0, .ref (ad 1))]) hx hb dX12_crowd_79 hl (k := 2) rfl rfl (by decide) rfl (fun ls hl => ?_)
          refine lv_goto (tgt := 34) hx hb dX12_crowd_82 (by decide) ?_
          exact ih v1 (v2 + 1) M13 _ _ _ hM hv hw (lv_sub hl [2, 1, 0] rfl)
        · have hv := hv.2 b14
          refine lv_iload_n hx hb dX12_crowd_73 rfl (lv_at hl 2 rfl) ?_
          refine lv_goto (tgt := 78) hx hb dX12_crowd_74 (by decide) ?_
          refine lv_istore_n (lv' := [(1, .int (iI v2)), (0, .ref (ad 1)), (2, .int (iI v2))]) hx hb dX12_crowd_78 rfl hl (by decide) rfl (fun ls hl => ?_)
          refine r_iinc (v := (v2 + 1)) (lv' := [(2, .int (iI (v2 + 1))), (1, .int (iI v2)), (0, .ref (ad 1))]) hx hb dX12_crowd_79 hl (k := 2) rfl rfl (by decide) rfl (fun ls hl => ?_)
          refine lv_goto (tgt := 34) hx hb dX12_crowd_82 (by decide) ?_
          exact ih v2 (v2 + 1) M13 _ _ _ hM hv hw (lv_sub hl [2, 1, 0] rfl)
  refine lv_aload_n hx hb dX12_crowd_0 rfl (lv_at hl 0 rfl) ?_
  refine r_iconst hx hb dX12_crowd_1 ?_
  obtain ⟨M1, e1⟩ : ∃ M1 : Mem, M1 = up2 M 1 0 0 := ⟨_, rfl⟩
  have hv := hv M1 e1
  refine pf_X12_112 (ws' := (WM τ ad M1)) hx hb hC hw 1 (gM_1 τ ad M) (Nat.le_of_ble_eq_true rfl) (by rw [e1]; exact sM_1_0 τ ad M _) dX12_crowd_2 (fun H locs hw => ?_)
  have hM : MR M1 := by rw [e1]; exact hM.put (by decide) (by decide)
  refine lv_aload_n hx hb dX12_crowd_5 rfl (lv_at hl 0 rfl) ?_
  refine gf_X12_122 hx hb hC hw 1 (gM_1 τ ad M1) rfl dX12_crowd_6 ?_
  refine r_top (fun x2 e2 => ?_)
  have g2 : iR x2 := by rw [e2]; exact hM.get (by decide) _
  have hv := hv x2 e2 g2
  refine r_if_ne (tgt := 15) hx hb dX12_crowd_9 (by decide) g2  (fun b3 => ?_) (fun b3 => ?_)
  · have hv := hv.1 b3
    refine lv_aload_n hx hb dX12_crowd_15 rfl (lv_at hl 0 rfl) ?_
    refine k_cVv (wq_M τ ad) hx hb hml hC hLS hA hw hl.1 (mX12_copies l D τ ad sA sV _   M1 hM _ hv) kX12_copies ml_X12_390 rfl (gM_1 τ ad M1) rfl rfl (Nat.le_of_ble_eq_true rfl) (rm_ok (by decide) (by decide)) ⟨Nat.zero_le _, Nat.zero_le _⟩ dX12_crowd_16 (fun M4 H locs hM hv hw => ?_)
    refine lv_aload_n hx hb dX12_crowd_19 rfl (lv_at hl 0 rfl) ?_
    refine lv_aload_n hx hb dX12_crowd_20 rfl (lv_at hl 0 rfl) ?_
    refine gf_X12_34 hx hb hC hw 1 (gM_1 τ ad M4) rfl dX12_crowd_21 ?_
    refine r_sipush hx hb dX12_crowd_24 (by decide +kernel) ?_
    refine k_cVv (wq_M τ ad) hx hb hml hC hLS hA hw hl.1 (mX12_goesOn l D τ ad sA sV _ 6 200 aM_6 (by decide) M4 hM _ hv) kX12_goesOn ml_X12_355 rfl (gM_1 τ ad M4) rfl rfl (Nat.le_of_ble_eq_true rfl) (rm_ok (by decide) (by decide)) ⟨Nat.zero_le _, Nat.zero_le _⟩ dX12_crowd_27 (fun M5 H locs hM hv hw => ?_)
    refine r_iconst hx hb dX12_crowd_30 ?_
    refine lv_istore_n (lv' := [(1, .int (iI 0)), (0, .ref (ad 1))]) hx hb dX12_crowd_31 rfl hl (by decide) rfl (fun ls hl => ?_)
    refine r_iconst hx hb dX12_crowd_32 ?_
    refine lv_istore_n (lv' := [(2, .int (iI 1)), (1, .int (iI 0)), (0, .ref (ad 1))]) hx hb dX12_crowd_33 rfl hl (by decide) rfl (fun ls hl => ?_)
    obtain ⟨n15, hv⟩ := hv
    refine L34 _ ?_ n15 0 1 M5 _ _ _ hM hv hw (lv_sub hl [2, 1, 0] rfl)
    · intro v1 M H locs ls hM hv hw hl
      refine lv_aload_n hx hb dX12_crowd_85 rfl (lv_at hl 0 rfl) ?_
      refine lv_aload_n hx hb dX12_crowd_86 rfl (lv_at hl 0 rfl) ?_
      refine gf_X12_34 hx hb hC hw 1 (gM_1 τ ad M) rfl dX12_crowd_87 ?_
      refine r_bipush hx hb dX12_crowd_90 (by decide +kernel) ?_
      refine lv_iload_n hx hb dX12_crowd_92 rfl (lv_at hl 1 rfl) ?_
      obtain ⟨c16, hv⟩ := hv
      refine k_cVi (wq_M τ ad) hx hb hml hC hLS hA hw hl.1 (mX12_bitsBy l D τ ad sA sV _ 6 29 v1 aM_6 (by decide) c16 M hM _ hv) kX12_bitsBy ml_X12_275 rfl (gM_1 τ ad M) rfl rfl (Nat.le_of_ble_eq_true rfl) (rm_ok (by decide) (by decide)) ⟨Nat.zero_le _, Nat.zero_le _⟩ dX12_crowd_93 (fun x17 M17 H locs g17 hM hv hw => ?_)
      have hv := hv g17
      refine lv_istore_n (lv' := [(2, .int (iI x17)), (0, .ref (ad 1)), (1, .int (iI v1))]) hx hb dX12_crowd_96 rfl hl (by decide) rfl (fun ls hl => ?_)
      refine lv_aload_n hx hb dX12_crowd_97 rfl (lv_at hl 1 rfl) ?_
      refine r_iconst hx hb dX12_crowd_98 ?_
      obtain ⟨M18, e18⟩ : ∃ M18 : Mem, M18 = up2 M17 1 1 0 := ⟨_, rfl⟩
      have hv := hv M18 e18
      refine pf_X12_119 (ws' := (WM τ ad M18)) hx hb hC hw 1 (gM_1 τ ad M17) (Nat.le_of_ble_eq_true rfl) (by rw [e18]; exact sM_1_1 τ ad M17 _) dX12_crowd_99 (fun H locs hw => ?_)
      have hM : MR M18 := by rw [e18]; exact hM.put (by decide) (by decide)
      refine lv_aload_n hx hb dX12_crowd_102 rfl (lv_at hl 1 rfl) ?_
      refine lv_iload_n hx hb dX12_crowd_103 rfl (lv_at hl 0 rfl) ?_
      refine k_cSi (wq_M τ ad) hx hb hml hC hLS hA hw hl.1 (mJ6_bitCount_0f7a4M l D τ ad sA sV _ x17 g17 M18 hM _ hv) kJ6_bitCount_0f7a4 ml_X12_279 rfl rfl (Nat.le_of_ble_eq_true rfl) (rm_ok (by decide) (by decide)) ⟨Nat.zero_le _, Nat.zero_le _⟩ dX12_crowd_104 (fun x19 M19 H locs g19 hM hv hw => ?_)
      have hv := hv g19
      refine r_i2l hx hb dX12_crowd_107 g19 ?_
      refine k_cVv (wq_M τ ad) hx hb hml hC hLS hA hw hl.1 (mX12_enters l D τ ad sA sV _ x19 (iR_lR g19) M19 hM _ hv) kX12_enters ml_X12_358 rfl (gM_1 τ ad M19) rfl rfl (Nat.le_of_ble_eq_true rfl) (rm_ok (by decide) (by decide)) ⟨Nat.zero_le _, Nat.zero_le _⟩ dX12_crowd_108 (fun M20 H locs hM hv hw => ?_)
      refine lv_aload_n hx hb dX12_crowd_111 rfl (lv_at hl 1 rfl) ?_
      refine lv_iload_n hx hb dX12_crowd_112 rfl (lv_at hl 0 rfl) ?_
      refine lv_aload_n hx hb dX12_crowd_113 rfl (lv_at hl 1 rfl) ?_
      refine lv_iload_n hx hb dX12_crowd_114 rfl (lv_at hl 2 rfl) ?_
      refine k_cVi (wq_M τ ad) hx hb hml hC hLS hA hw hl.1 (mX12_owners l D τ ad sA sV _ v1 c16 M20 hM _ hv) kX12_owners ml_X12_305 rfl (gM_1 τ ad M20) rfl rfl (Nat.le_of_ble_eq_true rfl) (rm_ok (by decide) (by decide)) ⟨Nat.zero_le _, Nat.zero_le _⟩ dX12_crowd_115 (fun x21 M21 H locs g21 hM hv hw => ?_)
      have hv := hv g21
      refine r_iandF hx hb dX12_crowd_118 (fun x22 e22 g22 => ?_)
      have hv := hv x22 e22 g22
      refine k_cSi (wq_M τ ad) hx hb hml hC hLS hA hw hl.1 (mJ6_bitCount_0f7a4M l D τ ad sA sV _ x22 g22 M21 hM _ hv) kJ6_bitCount_0f7a4 ml_X12_279 rfl rfl (Nat.le_of_ble_eq_true rfl) (rm_ok (by decide) (by decide)) ⟨Nat.zero_le _, Nat.zero_le _⟩ dX12_crowd_119 (fun x23 M23 H locs g23 hM hv hw => ?_)
      have hv := hv g23
      refine r_i2l hx hb dX12_crowd_122 g23 ?_
      refine k_cVv (wq_M τ ad) hx hb hml hC hLS hA hw hl.1 (mX12_enters l D τ ad sA sV _ x23 (iR_lR g23) M23 hM _ hv) kX12_enters ml_X12_358 rfl (gM_1 τ ad M23) rfl rfl (Nat.le_of_ble_eq_true rfl) (rm_ok (by decide) (by decide)) ⟨Nat.zero_le _, Nat.zero_le _⟩ dX12_crowd_123 (fun M24 H locs hM hv hw => ?_)
      refine lv_iload_n hx hb dX12_crowd_126 rfl (lv_at hl 2 rfl) ?_
      exact k_iret (wq_M τ ad) hx hb hr hlk hw hM c16 hv dX12_crowd_127
  · have hv := hv.2 b3
    refine r_bipush hx hb dX12_crowd_12 (by decide +kernel) ?_
    exact k_iret (wq_M τ ad) hx hb hr hlk hw hM (by decide) hv dX12_crowd_14
set_option maxHeartbeats 4000000 in
set_option maxRecDepth 100000 in
theorem bmX12_sharesFrom (l : Launch) (D : va_G) (τ : Nat → ClassId) (ad : Nat → Nat) (sA sV : Nat → Nat) (d : Nat) (rc : Int → Int → Int → Int → Mem → (Mem → Prop) → Prop) (hrc_X12_sharesFrom : ∀ (sz : Nat) (p1 : Int) (p2 : Int) (p3 : Int) (p4 : Int) (hp1 : iR p1) (hp2 : iR p2) (hp3 : iR p3) (hp4 : iR p4) (M : Mem) (hM : MR M) (Q : Mem → Prop), rc  p1 p2 p3 p4 M Q → Met l yX12_sharesFrom (lw_w yX12_sharesFrom cX12_sharesFrom 6 none) (rmk (2 + d) 0 0) (kPc D τ sA sV (WM τ ad M) sz [.ref (ad 1), .int (iI p1), .int (iI p2), .int (iI p3), .int (iI p4)]) (gQv D (EQv (WM τ ad) MR Q) (va_A (WM τ ad M) sz)) 0 0 (va_A (WM τ ad M) sz)) (sz : Nat) (p1 : Int) (p2 : Int) (p3 : Int) (p4 : Int) (hp1 : iR p1) (hp2 : iR p2) (hp3 : iR p3) (hp4 : iR p4) (M : Mem) (hM : MR M) (Q : Mem → Prop) (hv : bX12_sharesFrom rc p1 p2 p3 p4 M Q) : Met l yX12_sharesFrom (lw_w yX12_sharesFrom cX12_sharesFrom 6 none) (rmk (2 + (d + 1)) 0 0) (kPc D τ sA sV (WM τ ad M) sz [.ref (ad 1), .int (iI p1), .int (iI p2), .int (iI p3), .int (iI p4)]) (gQv D (EQv (WM τ ad) MR Q) (va_A (WM τ ad M) sz)) 0 0 (va_A (WM τ ad M) sz) := by
  refine k_met (ret := none) (Qc := gQv D (EQv (WM τ ad) MR Q)) (by decide +kernel) (Nat.le_of_ble_eq_true rfl) ?_
  intro p e s m args below meth c A ls hx hb hml hr hlk hnm hC hLS hA hw hl
  have hC : cx D τ s m args RX12 := hC
  have hl : lv_has ls 6 [(0, .ref (ad 1)), (1, .int (iI p1)), (2, .int (iI p2)), (3, .int (iI p3)), (4, .int (iI p4))] := hl
  unfold bX12_sharesFrom at hv
  have L91 : ∀ (n : Nat) (v5 : Int) (M : Mem) (H : Heap) (locs : List Loc) (ls : Array Slot), MR M → qX12_sharesFrom_L91 rc p1 p2 p3 p4  Q n v5 M → wS D A s.heap (WM τ ad M) H locs → lv_has ls 6 [(0, .ref (ad 1)), (1, .int (iI p1)), (2, .int (iI p2)), (3, .int (iI p3)), (4, .int (iI p4)), (5, .int (iI v5))] → W p l e (rmk (2 + (d + 1)) 0 0) s m args below meth c H locs 0 0 (MQ below (gQv D (EQv (WM τ ad) MR Q) A) args s 0 0 A) (F0 m 91 ls []) := by
    intro n
    induction n with
    | zero => intro v5 M H locs ls hM hv; rw [qX12_sharesFrom_L91] at hv; exact hv.elim
    | succ n ih =>
      intro v5 M H locs ls hM hv hw hl
      rw [qX12_sharesFrom_L91] at hv
      refine lv_iload hx hb dX12_sharesFrom_91 (lv_at hl 5 rfl) ?_
      refine lv_aload_n hx hb dX12_sharesFrom_93 rfl (lv_at hl 0 rfl) ?_
      refine gf_X12_122 hx hb hC hw 1 (gM_1 τ ad M) rfl dX12_sharesFrom_94 ?_
      refine r_top (fun x12 e12 => ?_)
      have g12 : iR x12 := by rw [e12]; exact hM.get (by decide) _
      have hv := hv x12 e12 g12
      obtain ⟨c13, hv⟩ := hv
      refine r_icmp_ge (tgt := 189) hx hb dX12_sharesFrom_97 (by decide) c13 g12 (fun b14 => ?_) (fun b14 => ?_)
      · have hv := hv.1 b14
        exact k_vret (wq_M τ ad) hx hb hr hlk hw hM hv dX12_sharesFrom_189
      · have hv := hv.2 b14
        refine lv_aload_n hx hb dX12_sharesFrom_100 rfl (lv_at hl 0 rfl) ?_
        refine gf_X12_31 hx hb hC hw 1 (gM_1 τ ad M) rfl dX12_sharesFrom_101 ?_
        refine lv_iload_n hx hb dX12_sharesFrom_104 rfl (lv_at hl 1 rfl) ?_
        refine k_cSz (wq_M τ ad) hx hb hml hC hLS hA hw hl.1 (mX12_isEnded l D τ ad sA sV _ 5 p1 aM_5 hp1 M hM _ hv) kX12_isEnded ml_X12_132 rfl rfl (Nat.le_of_ble_eq_true rfl) (rm_ok (by omega) (by decide)) ⟨Nat.zero_le _, Nat.zero_le _⟩ dX12_sharesFrom_105 (fun x15 M15 H locs g15 z15 hM hv hw => ?_)
        have hv := hv g15 z15
        refine r_if_ne (tgt := 189) hx hb dX12_sharesFrom_108 (by decide) g15  (fun b16 => ?_) (fun b16 => ?_)
        · have hv := hv.1 b16
          exact k_vret (wq_M τ ad) hx hb hr hlk hw hM hv dX12_sharesFrom_189
        · have hv := hv.2 b16
          refine lv_iload_n hx hb dX12_sharesFrom_111 rfl (lv_at hl 2 rfl) ?_
          refine lv_iload hx hb dX12_sharesFrom_112 (lv_at hl 5 rfl) ?_
          refine k_cSz (wq_M τ ad) hx hb hml hC hLS hA hw hl.1 (mX12_has l D τ ad sA sV _ p2 v5 hp2 c13 M15 hM _ hv) kX12_has ml_X12_411 rfl rfl (Nat.le_of_ble_eq_true rfl) (rm_ok (by omega) (by decide)) ⟨Nat.zero_le _, Nat.zero_le _⟩ dX12_sharesFrom_114 (fun x17 M17 H locs g17 z17 hM hv hw => ?_)
          have hv := hv g17 z17
          refine r_if_ne (tgt := 183) hx hb dX12_sharesFrom_117 (by decide) g17  (fun b18 => ?_) (fun b18 => ?_)
          · have hv := hv.1 b18
            refine r_iinc (v := (v5 + 1)) (lv' := [(5, .int (iI (v5 + 1))), (0, .ref (ad 1)), (1, .int (iI p1)), (2, .int (iI p2)), (3, .int (iI p3)), (4, .int (iI p4))]) hx hb dX12_sharesFrom_183 hl (k := 5) rfl rfl (by decide) rfl (fun ls hl => ?_)
            refine lv_goto (tgt := 91) hx hb dX12_sharesFrom_186 (by decide) ?_
            exact ih (v5 + 1) M17 _ _ _ hM hv hw (lv_sub hl [1, 2, 3, 4, 5, 0] rfl)
          · have hv := hv.2 b18
            refine lv_aload_n hx hb dX12_sharesFrom_120 rfl (lv_at hl 0 rfl) ?_
            refine gf_X12_31 hx hb hC hw 1 (gM_1 τ ad M17) rfl dX12_sharesFrom_121 ?_
            refine lv_iload hx hb dX12_sharesFrom_124 (lv_at hl 5 rfl) ?_
            refine k_cSz (wq_M τ ad) hx hb hml hC hLS hA hw hl.1 (mX12_isOn l D τ ad sA sV _ 5 v5 aM_5 c13 M17 hM _ hv) kX12_isOn ml_X12_266 rfl rfl (Nat.le_of_ble_eq_true rfl) (rm_ok (by omega) (by decide)) ⟨Nat.zero_le _, Nat.zero_le _⟩ dX12_sharesFrom_126 (fun x19 M19 H locs g19 z19 hM hv hw => ?_)
            have hv := hv g19 z19
            refine r_if_eq (tgt := 183) hx hb dX12_sharesFrom_129 (by decide) g19  (fun b20 => ?_) (fun b20 => ?_)
            · have hv := hv.1 b20
              refine r_iinc (v := (v5 + 1)) (lv' := [(5, .int (iI (v5 + 1))), (0, .ref (ad 1)), (1, .int (iI p1)), (2, .int (iI p2)), (3, .int (iI p3)), (4, .int (iI p4))]) hx hb dX12_sharesFrom_183 hl (k := 5) rfl rfl (by decide) rfl (fun ls hl => ?_)
              refine lv_goto (tgt := 91) hx hb dX12_sharesFrom_186 (by decide) ?_
              exact ih (v5 + 1) M19 _ _ _ hM hv hw (lv_sub hl [1, 2, 3, 4, 5, 0] rfl)
            · have hv := hv.2 b20
              refine lv_aload_n hx hb dX12_sharesFrom_132 rfl (lv_at hl 0 rfl) ?_
              refine gf_X12_31 hx hb hC hw 1 (gM_1 τ ad M19) rfl dX12_sharesFrom_133 ?_
              refine lv_iload hx hb dX12_sharesFrom_136 (lv_at hl 5 rfl) ?_
              obtain ⟨c21, hv⟩ := hv
              obtain ⟨c22, hv⟩ := hv
              refine r_iald hx hb hC hw 5 (gI_M aM_5 τ ad M19) c21 c22 (by decide) dX12_sharesFrom_138 ?_
              refine r_top (fun x23 e23 => ?_)
              have g23 : iR x23 := by rw [e23]; exact hM.get aM_5.pos _
              have hv := hv x23 e23 g23
              refine lv_aload_n hx hb dX12_sharesFrom_139 rfl (lv_at hl 0 rfl) ?_
              refine gf_X12_31 hx hb hC hw 1 (gM_1 τ ad M19) rfl dX12_sharesFrom_140 ?_
              refine r_bipush hx hb dX12_sharesFrom_143 (by decide +kernel) ?_
              refine lv_iload_n hx hb dX12_sharesFrom_145 rfl (lv_at hl 1 rfl) ?_
              refine r_iadd (z := (13 + p1)) hx hb dX12_sharesFrom_146 rfl ?_
              obtain ⟨c24, hv⟩ := hv
              obtain ⟨c25, hv⟩ := hv
              refine r_iald hx hb hC hw 5 (gI_M aM_5 τ ad M19) c24 c25 (by decide) dX12_sharesFrom_147 ?_
              refine r_top (fun x26 e26 => ?_)
              have g26 : iR x26 := by rw [e26]; exact hM.get aM_5.pos _
              have hv := hv x26 e26 g26
              refine r_isub (z := (x23 - x26)) hx hb dX12_sharesFrom_148 rfl ?_
              obtain ⟨c27, hv⟩ := hv
              refine r_mabs hx hb hml hC hl.1 ml_X12_290 sm_abs in_J9 cd_abs (show 1 ≤ _ by show 1 ≤ _ + (d + 1); omega) (Nat.le_trans (m := 64) (Nat.le_of_ble_eq_true rfl) (by show 64 ≤ 64 * (_ + (d + 1)); omega)) (Nat.zero_le _) (Nat.zero_le _) c27 dX12_sharesFrom_149 (fun x28 e28 g28 => ?_)
              have hv := hv x28 e28 g28
              refine lv_iload hx hb dX12_sharesFrom_152 (lv_at hl 4 rfl) ?_
              obtain ⟨c29, hv⟩ := hv
              refine r_icmp_gt (tgt := 183) hx hb dX12_sharesFrom_154 (by decide) c29 hp4 (fun b30 => ?_) (fun b30 => ?_)
              · have hv := hv.1 b30
                refine r_iinc (v := (v5 + 1)) (lv' := [(5, .int (iI (v5 + 1))), (0, .ref (ad 1)), (1, .int (iI p1)), (2, .int (iI p2)), (3, .int (iI p3)), (4, .int (iI p4))]) hx hb dX12_sharesFrom_183 hl (k := 5) rfl rfl (by decide) rfl (fun ls hl => ?_)
                refine lv_goto (tgt := 91) hx hb dX12_sharesFrom_186 (by decide) ?_
                exact ih (v5 + 1) M19 _ _ _ hM hv hw (lv_sub hl [1, 2, 3, 4, 5, 0] rfl)
              · have hv := hv.2 b30
                refine lv_aload_n hx hb dX12_sharesFrom_157 rfl (lv_at hl 0 rfl) ?_
                refine gf_X12_88 hx hb hC hw 1 (gM_1 τ ad M19) rfl dX12_sharesFrom_158 ?_
                refine lv_iload_n hx hb dX12_sharesFrom_161 rfl (lv_at hl 1 rfl) ?_
                refine lv_iload hx hb dX12_sharesFrom_162 (lv_at hl 5 rfl) ?_
                obtain ⟨c31, hv⟩ := hv
                obtain ⟨c32, hv⟩ := hv
                obtain ⟨M33, e33⟩ : ∃ M33 : Mem, M33 = up2 M19 24 p1 v5 := ⟨_, rfl⟩
                have hv := hv M33 e33
                refine r_iast (ws' := (WM τ ad M33)) hx hb hC hw 24 (gI_M aM_24 τ ad M19) c31 c32 (by decide) (by rw [e33]; exact sI_M aM_24 τ ad M19 _ _) dX12_sharesFrom_164 (fun H locs hw => ?_)
                have hM : MR M33 := by rw [e33]; exact hM.put aM_24.pos c13
                refine lv_aload_n hx hb dX12_sharesFrom_165 rfl (lv_at hl 0 rfl) ?_
                refine lv_iload_n hx hb dX12_sharesFrom_166 rfl (lv_at hl 1 rfl) ?_
                refine r_iconst hx hb dX12_sharesFrom_167 ?_
                refine r_iadd (z := (p1 + 1)) hx hb dX12_sharesFrom_168 rfl ?_
                refine lv_iload_n hx hb dX12_sharesFrom_169 rfl (lv_at hl 2 rfl) ?_
                refine r_iconst hx hb dX12_sharesFrom_170 ?_
                refine lv_iload hx hb dX12_sharesFrom_171 (lv_at hl 5 rfl) ?_
                refine r_ishlF hx hb dX12_sharesFrom_173 (fun x34 e34 g34 => ?_)
                have hv := hv x34 e34 g34
                refine r_iorF hx hb dX12_sharesFrom_174 (fun x35 e35 g35 => ?_)
                have hv := hv x35 e35 g35
                refine lv_iload_n hx hb dX12_sharesFrom_175 rfl (lv_at hl 3 rfl) ?_
                refine r_iconst hx hb dX12_sharesFrom_176 ?_
                refine r_iadd (z := (p3 + 1)) hx hb dX12_sharesFrom_177 rfl ?_
                refine lv_iload hx hb dX12_sharesFrom_178 (lv_at hl 4 rfl) ?_
                obtain ⟨c36, hv⟩ := hv
                obtain ⟨c37, hv⟩ := hv
                refine k_cVv (wq_M τ ad) hx hb hml hC hLS hA hw hl.1 (hrc_X12_sharesFrom _ (p1 + 1) x35 (p3 + 1) p4 c36 g35 c37 hp4 M33 hM _ hv) kX12_sharesFrom ml_X12_417 rfl (gM_1 τ ad M33) rfl rfl (Nat.le_of_ble_eq_true rfl) (rm_ok (by omega) (by decide)) ⟨Nat.zero_le _, Nat.zero_le _⟩ dX12_sharesFrom_180 (fun M38 H locs hM hv hw => ?_)
                refine r_iinc (v := (v5 + 1)) (lv' := [(5, .int (iI (v5 + 1))), (0, .ref (ad 1)), (1, .int (iI p1)), (2, .int (iI p2)), (3, .int (iI p3)), (4, .int (iI p4))]) hx hb dX12_sharesFrom_183 hl (k := 5) rfl rfl (by decide) rfl (fun ls hl => ?_)
                refine lv_goto (tgt := 91) hx hb dX12_sharesFrom_186 (by decide) ?_
                exact ih (v5 + 1) M38 _ _ _ hM hv hw (lv_sub hl [1, 2, 3, 4, 5, 0] rfl)
  have L24 : ∀ (n : Nat) (v5 : Int) (M : Mem) (H : Heap) (locs : List Loc) (ls : Array Slot), MR M → qX12_sharesFrom_L24 rc p1 p2 p3 p4  Q n v5 M → wS D A s.heap (WM τ ad M) H locs → lv_has ls 6 [(0, .ref (ad 1)), (5, .int (iI v5))] → W p l e (rmk (2 + (d + 1)) 0 0) s m args below meth c H locs 0 0 (MQ below (gQv D (EQv (WM τ ad) MR Q) A) args s 0 0 A) (F0 m 24 ls []) := by
    intro n
    induction n with
    | zero => intro v5 M H locs ls hM hv; rw [qX12_sharesFrom_L24] at hv; exact hv.elim
    | succ n ih =>
      intro v5 M H locs ls hM hv hw hl
      rw [qX12_sharesFrom_L24] at hv
      refine lv_iload hx hb dX12_sharesFrom_24 (lv_at hl 1 rfl) ?_
      refine lv_aload_n hx hb dX12_sharesFrom_26 rfl (lv_at hl 0 rfl) ?_
      refine gf_X12_129 hx hb hC hw 1 (gM_1 τ ad M) rfl dX12_sharesFrom_27 ?_
      refine r_top (fun x43 e43 => ?_)
      have g43 : iR x43 := by rw [e43]; exact hM.get (by decide) _
      have hv := hv x43 e43 g43
      obtain ⟨c44, hv⟩ := hv
      refine r_icmp_ge (tgt := 53) hx hb dX12_sharesFrom_30 (by decide) c44 g43 (fun b45 => ?_) (fun b45 => ?_)
      · have hv := hv.1 b45
        exact k_vret (wq_M τ ad) hx hb hr hlk hw hM hv dX12_sharesFrom_53
      · have hv := hv.2 b45
        refine lv_aload_n hx hb dX12_sharesFrom_33 rfl (lv_at hl 0 rfl) ?_
        refine gf_X12_91 hx hb hC hw 1 (gM_1 τ ad M) rfl dX12_sharesFrom_34 ?_
        refine lv_iload hx hb dX12_sharesFrom_37 (lv_at hl 1 rfl) ?_
        refine lv_aload_n hx hb dX12_sharesFrom_39 rfl (lv_at hl 0 rfl) ?_
        refine gf_X12_88 hx hb hC hw 1 (gM_1 τ ad M) rfl dX12_sharesFrom_40 ?_
        refine lv_iload hx hb dX12_sharesFrom_43 (lv_at hl 1 rfl) ?_
        obtain ⟨c46, hv⟩ := hv
        obtain ⟨c47, hv⟩ := hv
        refine r_iald hx hb hC hw 24 (gI_M aM_24 τ ad M) c46 c47 (by decide) dX12_sharesFrom_45 ?_
        refine r_top (fun x48 e48 => ?_)
        have g48 : iR x48 := by rw [e48]; exact hM.get aM_24.pos _
        have hv := hv x48 e48 g48
        obtain ⟨M49, e49⟩ : ∃ M49 : Mem, M49 = up2 M 25 v5 x48 := ⟨_, rfl⟩
        have hv := hv M49 e49
        refine r_iast (ws' := (WM τ ad M49)) hx hb hC hw 25 (gI_M aM_25 τ ad M) c46 c47 (by decide) (by rw [e49]; exact sI_M aM_25 τ ad M _ _) dX12_sharesFrom_46 (fun H locs hw => ?_)
        have hM : MR M49 := by rw [e49]; exact hM.put aM_25.pos g48
        refine r_iinc (v := (v5 + 1)) (lv' := [(5, .int (iI (v5 + 1))), (0, .ref (ad 1))]) hx hb dX12_sharesFrom_47 hl (k := 1) rfl rfl (by decide) rfl (fun ls hl => ?_)
        refine lv_goto (tgt := 24) hx hb dX12_sharesFrom_50 (by decide) ?_
        exact ih (v5 + 1) M49 _ _ _ hM hv hw (lv_sub hl [1, 0] rfl)
  refine lv_iload_n hx hb dX12_sharesFrom_0 rfl (lv_at hl 1 rfl) ?_
  refine lv_aload_n hx hb dX12_sharesFrom_1 rfl (lv_at hl 0 rfl) ?_
  refine gf_X12_129 hx hb hC hw 1 (gM_1 τ ad M) rfl dX12_sharesFrom_2 ?_
  refine r_top (fun x1 e1 => ?_)
  have g1 : iR x1 := by rw [e1]; exact hM.get (by decide) _
  have hv := hv x1 e1 g1
  refine r_icmp_ne (tgt := 54) hx hb dX12_sharesFrom_5 (by decide) hp1 g1 (fun b2 => ?_) (fun b2 => ?_)
  · have hv := hv.1 b2
    refine lv_iload_n hx hb dX12_sharesFrom_54 rfl (lv_at hl 3 rfl) ?_
    refine lv_aload_n hx hb dX12_sharesFrom_55 rfl (lv_at hl 0 rfl) ?_
    refine gf_X12_129 hx hb hC hw 1 (gM_1 τ ad M) rfl dX12_sharesFrom_56 ?_
    refine r_top (fun x3 e3 => ?_)
    have g3 : iR x3 := by rw [e3]; exact hM.get (by decide) _
    have hv := hv x3 e3 g3
    refine r_iadd (z := (p3 + x3)) hx hb dX12_sharesFrom_59 rfl ?_
    refine lv_iload_n hx hb dX12_sharesFrom_60 rfl (lv_at hl 1 rfl) ?_
    refine r_isub (z := ((p3 + x3) - p1)) hx hb dX12_sharesFrom_61 rfl ?_
    refine lv_aload_n hx hb dX12_sharesFrom_62 rfl (lv_at hl 0 rfl) ?_
    refine gf_X12_404 hx hb hC hw 1 (gM_1 τ ad M) rfl dX12_sharesFrom_63 ?_
    refine r_top (fun x4 e4 => ?_)
    have g4 : iR x4 := by rw [e4]; exact hM.get (by decide) _
    have hv := hv x4 e4 g4
    obtain ⟨c5, hv⟩ := hv
    refine r_icmp_gt (tgt := 70) hx hb dX12_sharesFrom_66 (by decide) c5 g4 (fun b6 => ?_) (fun b6 => ?_)
    · have hv := hv.1 b6
      refine lv_aload_n hx hb dX12_sharesFrom_70 rfl (lv_at hl 0 rfl) ?_
      refine gf_X12_88 hx hb hC hw 1 (gM_1 τ ad M) rfl dX12_sharesFrom_71 ?_
      refine lv_iload_n hx hb dX12_sharesFrom_74 rfl (lv_at hl 1 rfl) ?_
      refine r_iconst hx hb dX12_sharesFrom_75 ?_
      obtain ⟨c7, hv⟩ := hv
      obtain ⟨c8, hv⟩ := hv
      obtain ⟨M9, e9⟩ : ∃ M9 : Mem, M9 = up2 M 24 p1 (-1) := ⟨_, rfl⟩
      have hv := hv M9 e9
      refine r_iast (ws' := (WM τ ad M9)) hx hb hC hw 24 (gI_M aM_24 τ ad M) c7 c8 (by decide) (by rw [e9]; exact sI_M aM_24 τ ad M _ _) dX12_sharesFrom_76 (fun H locs hw => ?_)
      have hM : MR M9 := by rw [e9]; exact hM.put aM_24.pos (by decide)
      refine lv_aload_n hx hb dX12_sharesFrom_77 rfl (lv_at hl 0 rfl) ?_
      refine lv_iload_n hx hb dX12_sharesFrom_78 rfl (lv_at hl 1 rfl) ?_
      refine r_iconst hx hb dX12_sharesFrom_79 ?_
      refine r_iadd (z := (p1 + 1)) hx hb dX12_sharesFrom_80 rfl ?_
      refine lv_iload_n hx hb dX12_sharesFrom_81 rfl (lv_at hl 2 rfl) ?_
      refine lv_iload_n hx hb dX12_sharesFrom_82 rfl (lv_at hl 3 rfl) ?_
      refine lv_iload hx hb dX12_sharesFrom_83 (lv_at hl 4 rfl) ?_
      obtain ⟨c10, hv⟩ := hv
      refine k_cVv (wq_M τ ad) hx hb hml hC hLS hA hw hl.1 (hrc_X12_sharesFrom _ (p1 + 1) p2 p3 p4 c10 hp2 hp3 hp4 M9 hM _ hv) kX12_sharesFrom ml_X12_417 rfl (gM_1 τ ad M9) rfl rfl (Nat.le_of_ble_eq_true rfl) (rm_ok (by omega) (by decide)) ⟨Nat.zero_le _, Nat.zero_le _⟩ dX12_sharesFrom_85 (fun M11 H locs hM hv hw => ?_)
      refine r_iconst hx hb dX12_sharesFrom_88 ?_
      refine lv_istore (lv' := [(5, .int (iI 0)), (0, .ref (ad 1)), (1, .int (iI p1)), (2, .int (iI p2)), (3, .int (iI p3)), (4, .int (iI p4))]) hx hb dX12_sharesFrom_89 hl (by decide) rfl (fun ls hl => ?_)
      obtain ⟨n39, hv⟩ := hv
      refine L91  n39 0 M11 _ _ _ hM hv hw (lv_sub hl [1, 2, 3, 4, 5, 0] rfl)
    · have hv := hv.2 b6
      exact k_vret (wq_M τ ad) hx hb hr hlk hw hM hv dX12_sharesFrom_69
  · have hv := hv.2 b2
    refine lv_iload_n hx hb dX12_sharesFrom_8 rfl (lv_at hl 3 rfl) ?_
    refine lv_aload_n hx hb dX12_sharesFrom_9 rfl (lv_at hl 0 rfl) ?_
    refine gf_X12_404 hx hb hC hw 1 (gM_1 τ ad M) rfl dX12_sharesFrom_10 ?_
    refine r_top (fun x40 e40 => ?_)
    have g40 : iR x40 := by rw [e40]; exact hM.get (by decide) _
    have hv := hv x40 e40 g40
    refine r_icmp_le (tgt := 53) hx hb dX12_sharesFrom_13 (by decide) hp3 g40 (fun b41 => ?_) (fun b41 => ?_)
    · have hv := hv.1 b41
      exact k_vret (wq_M τ ad) hx hb hr hlk hw hM hv dX12_sharesFrom_53
    · have hv := hv.2 b41
      refine lv_aload_n hx hb dX12_sharesFrom_16 rfl (lv_at hl 0 rfl) ?_
      refine lv_iload_n hx hb dX12_sharesFrom_17 rfl (lv_at hl 3 rfl) ?_
      obtain ⟨M42, e42⟩ : ∃ M42 : Mem, M42 = up2 M 1 42 p3 := ⟨_, rfl⟩
      have hv := hv M42 e42
      refine pf_X12_404 (ws' := (WM τ ad M42)) hx hb hC hw 1 (gM_1 τ ad M) (Nat.le_of_ble_eq_true rfl) (by rw [e42]; exact sM_1_42 τ ad M _) dX12_sharesFrom_18 (fun H locs hw => ?_)
      have hM : MR M42 := by rw [e42]; exact hM.put (by decide) hp3
      refine r_iconst hx hb dX12_sharesFrom_21 ?_
      refine lv_istore (lv' := [(5, .int (iI 0)), (0, .ref (ad 1)), (1, .int (iI p1)), (2, .int (iI p2)), (3, .int (iI p3)), (4, .int (iI p4))]) hx hb dX12_sharesFrom_22 hl (by decide) rfl (fun ls hl => ?_)
      obtain ⟨n50, hv⟩ := hv
      refine L24  n50 0 M42 _ _ _ hM hv hw (lv_sub hl [1, 0] rfl)
theorem mX12_sharesFrom (l : Launch) (D : va_G) (τ : Nat → ClassId) (ad : Nat → Nat) (sA sV : Nat → Nat) (d : Nat) : ∀ (sz : Nat) (p1 : Int) (p2 : Int) (p3 : Int) (p4 : Int) (hp1 : iR p1) (hp2 : iR p2) (hp3 : iR p3) (hp4 : iR p4) (M : Mem) (hM : MR M) (Q : Mem → Prop) (hv : qX12_sharesFrom d p1 p2 p3 p4 M Q), Met l yX12_sharesFrom (lw_w yX12_sharesFrom cX12_sharesFrom 6 none) (rmk (2 + d) 0 0) (kPc D τ sA sV (WM τ ad M) sz [.ref (ad 1), .int (iI p1), .int (iI p2), .int (iI p3), .int (iI p4)]) (gQv D (EQv (WM τ ad) MR Q) (va_A (WM τ ad M) sz)) 0 0 (va_A (WM τ ad M) sz) := by
  induction d with
  | zero => intro sz p1 p2 p3 p4 hp1 hp2 hp3 hp4 M hM Q hv; exact hv.elim
  | succ d ih => intro sz p1 p2 p3 p4 hp1 hp2 hp3 hp4 M hM Q hv; exact bmX12_sharesFrom l D τ ad sA sV d (qX12_sharesFrom d) ih sz p1 p2 p3 p4 hp1 hp2 hp3 hp4 M hM Q hv
set_option maxHeartbeats 4000000 in
set_option maxRecDepth 100000 in
theorem mX12_shares (l : Launch) (D : va_G) (τ : Nat → ClassId) (ad : Nat → Nat) (sA sV : Nat → Nat) (sz : Nat) (p1 : Int) (hp1 : iR p1) (M : Mem) (hM : MR M) (Q : Int → Mem → Prop) (hv : qX12_shares p1 M Q) : Met l yX12_shares (lw_w yX12_shares cX12_shares 3 (some .int)) (rmk 13 0 0) (kPc D τ sA sV (WM τ ad M) sz [.ref (ad 1), .int (iI p1)]) (gQi D (EQi (WM τ ad) MR Q) (va_A (WM τ ad M) sz)) 0 0 (va_A (WM τ ad M) sz) := by
  refine k_met (ret := (some .int)) (Qc := gQi D (EQi (WM τ ad) MR Q)) (by decide +kernel) (Nat.le_of_ble_eq_true rfl) ?_
  intro p e s m args below meth c A ls hx hb hml hr hlk hnm hC hLS hA hw hl
  have hC : cx D τ s m args RX12 := hC
  have hl : lv_has ls 3 [(0, .ref (ad 1)), (1, .int (iI p1))] := hl
  unfold qX12_shares at hv
  have L39 : ∀ (n : Nat) (v2 : Int) (M : Mem) (H : Heap) (locs : List Loc) (ls : Array Slot), MR M → qX12_shares_L39 p1  Q n v2 M → wS D A s.heap (WM τ ad M) H locs → lv_has ls 3 [(0, .ref (ad 1)), (2, .int (iI v2))] → W p l e (rmk 13 0 0) s m args below meth c H locs 0 0 (MQ below (gQi D (EQi (WM τ ad) MR Q) A) args s 0 0 A) (F0 m 39 ls []) := by
    intro n
    induction n with
    | zero => intro v2 M H locs ls hM hv; rw [qX12_shares_L39] at hv; exact hv.elim
    | succ n ih =>
      intro v2 M H locs ls hM hv hw hl
      rw [qX12_shares_L39] at hv
      refine lv_iload_n hx hb dX12_shares_39 rfl (lv_at hl 1 rfl) ?_
      refine lv_aload_n hx hb dX12_shares_40 rfl (lv_at hl 0 rfl) ?_
      refine gf_X12_129 hx hb hC hw 1 (gM_1 τ ad M) rfl dX12_shares_41 ?_
      refine r_top (fun x8 e8 => ?_)
      have g8 : iR x8 := by rw [e8]; exact hM.get (by decide) _
      have hv := hv x8 e8 g8
      obtain ⟨c9, hv⟩ := hv
      refine r_icmp_ge (tgt := 64) hx hb dX12_shares_44 (by decide) c9 g8 (fun b10 => ?_) (fun b10 => ?_)
      · have hv := hv.1 b10
        refine lv_aload_n hx hb dX12_shares_64 rfl (lv_at hl 0 rfl) ?_
        refine gf_X12_404 hx hb hC hw 1 (gM_1 τ ad M) rfl dX12_shares_65 ?_
        refine r_top (fun x11 e11 => ?_)
        have g11 : iR x11 := by rw [e11]; exact hM.get (by decide) _
        have hv := hv x11 e11 g11
        exact k_iret (wq_M τ ad) hx hb hr hlk hw hM g11 hv dX12_shares_68
      · have hv := hv.2 b10
        refine lv_aload_n hx hb dX12_shares_47 rfl (lv_at hl 0 rfl) ?_
        refine lv_aload_n hx hb dX12_shares_48 rfl (lv_at hl 0 rfl) ?_
        refine gf_X12_91 hx hb hC hw 1 (gM_1 τ ad M) rfl dX12_shares_49 ?_
        refine lv_iload_n hx hb dX12_shares_52 rfl (lv_at hl 1 rfl) ?_
        obtain ⟨c12, hv⟩ := hv
        obtain ⟨c13, hv⟩ := hv
        refine r_iald hx hb hC hw 25 (gI_M aM_25 τ ad M) c12 c13 (by decide) dX12_shares_53 ?_
        refine r_top (fun x14 e14 => ?_)
        have g14 : iR x14 := by rw [e14]; exact hM.get aM_25.pos _
        have hv := hv x14 e14 g14
        refine r_i2l hx hb dX12_shares_54 g14 ?_
        refine k_cVv (wq_M τ ad) hx hb hml hC hLS hA hw hl.1 (mX12_enters l D τ ad sA sV _ x14 (iR_lR g14) M hM _ hv) kX12_enters ml_X12_358 rfl (gM_1 τ ad M) rfl rfl (Nat.le_of_ble_eq_true rfl) (rm_ok (by decide) (by decide)) ⟨Nat.zero_le _, Nat.zero_le _⟩ dX12_shares_55 (fun M15 H locs hM hv hw => ?_)
        refine r_iinc (v := (v2 + 1)) (lv' := [(2, .int (iI (v2 + 1))), (0, .ref (ad 1))]) hx hb dX12_shares_58 hl (k := 1) rfl rfl (by decide) rfl (fun ls hl => ?_)
        refine lv_goto (tgt := 39) hx hb dX12_shares_61 (by decide) ?_
        exact ih (v2 + 1) M15 _ _ _ hM hv hw (lv_sub hl [1, 0] rfl)
  refine lv_aload_n hx hb dX12_shares_0 rfl (lv_at hl 0 rfl) ?_
  refine r_iconst hx hb dX12_shares_1 ?_
  obtain ⟨M1, e1⟩ : ∃ M1 : Mem, M1 = up2 M 1 0 0 := ⟨_, rfl⟩
  have hv := hv M1 e1
  refine pf_X12_112 (ws' := (WM τ ad M1)) hx hb hC hw 1 (gM_1 τ ad M) (Nat.le_of_ble_eq_true rfl) (by rw [e1]; exact sM_1_0 τ ad M _) dX12_shares_2 (fun H locs hw => ?_)
  have hM : MR M1 := by rw [e1]; exact hM.put (by decide) (by decide)
  refine lv_iload_n hx hb dX12_shares_5 rfl (lv_at hl 1 rfl) ?_
  refine r_i2l hx hb dX12_shares_6 hp1 ?_
  refine r_lconst (z := 0) hx hb dX12_shares_7 (by decide +kernel) ?_
  refine r_ldc2 (z := 30) hx hb hC ct_X12_421 (by decide +kernel) dX12_shares_8 ?_
  refine k_cSz (wq_M τ ad) hx hb hml hC hLS hA hw hl.1 (mX12_in l D τ ad sA sV _ p1 0 30 (iR_lR hp1) (by decide) (by decide) M1 hM _ hv) kX12_in ml_X12_125 rfl rfl (Nat.le_of_ble_eq_true rfl) (rm_ok (by decide) (by decide)) ⟨Nat.zero_le _, Nat.zero_le _⟩ dX12_shares_11 (fun x2 M2 H locs g2 z2 hM hv hw => ?_)
  have hv := hv g2 z2
  refine r_if_ne (tgt := 19) hx hb dX12_shares_14 (by decide) g2  (fun b3 => ?_) (fun b3 => ?_)
  · have hv := hv.1 b3
    refine lv_aload_n hx hb dX12_shares_19 rfl (lv_at hl 0 rfl) ?_
    refine r_iconst hx hb dX12_shares_20 ?_
    obtain ⟨M4, e4⟩ : ∃ M4 : Mem, M4 = up2 M2 1 42 (-1) := ⟨_, rfl⟩
    have hv := hv M4 e4
    refine pf_X12_404 (ws' := (WM τ ad M4)) hx hb hC hw 1 (gM_1 τ ad M2) (Nat.le_of_ble_eq_true rfl) (by rw [e4]; exact sM_1_42 τ ad M2 _) dX12_shares_21 (fun H locs hw => ?_)
    have hM : MR M4 := by rw [e4]; exact hM.put (by decide) (by decide)
    refine lv_aload_n hx hb dX12_shares_24 rfl (lv_at hl 0 rfl) ?_
    refine r_iconst hx hb dX12_shares_25 ?_
    refine r_iconst hx hb dX12_shares_26 ?_
    refine r_iconst hx hb dX12_shares_27 ?_
    refine lv_iload_n hx hb dX12_shares_28 rfl (lv_at hl 1 rfl) ?_
    obtain ⟨d6, hd6, hv⟩ := hv
    refine k_cVv (wq_M τ ad) hx hb hml hC hLS hA hw hl.1 (mX12_sharesFrom l D τ ad sA sV d6 _ 0 0 0 p1 (by decide) (by decide) (by decide) hp1 M4 hM _ hv) kX12_sharesFrom ml_X12_417 rfl (gM_1 τ ad M4) rfl rfl (Nat.le_of_ble_eq_true rfl) (rm_ok (by omega) (by decide)) ⟨Nat.zero_le _, Nat.zero_le _⟩ dX12_shares_29 (fun M5 H locs hM hv hw => ?_)
    refine lv_aload_n hx hb dX12_shares_32 rfl (lv_at hl 0 rfl) ?_
    refine r_iconst hx hb dX12_shares_33 ?_
    obtain ⟨M7, e7⟩ : ∃ M7 : Mem, M7 = up2 M5 1 1 0 := ⟨_, rfl⟩
    have hv := hv M7 e7
    refine pf_X12_119 (ws' := (WM τ ad M7)) hx hb hC hw 1 (gM_1 τ ad M5) (Nat.le_of_ble_eq_true rfl) (by rw [e7]; exact sM_1_1 τ ad M5 _) dX12_shares_34 (fun H locs hw => ?_)
    have hM : MR M7 := by rw [e7]; exact hM.put (by decide) (by decide)
    refine r_iconst hx hb dX12_shares_37 ?_
    refine lv_istore_n (lv' := [(2, .int (iI 0)), (0, .ref (ad 1)), (1, .int (iI p1))]) hx hb dX12_shares_38 rfl hl (by decide) rfl (fun ls hl => ?_)
    obtain ⟨n16, hv⟩ := hv
    refine L39  n16 0 M7 _ _ _ hM hv hw (lv_sub hl [1, 0] rfl)
  · have hv := hv.2 b3
    refine r_iconst hx hb dX12_shares_17 ?_
    exact k_iret (wq_M τ ad) hx hb hr hlk hw hM (by decide) hv dX12_shares_18
set_option maxHeartbeats 4000000 in
set_option maxRecDepth 100000 in
theorem mX12_strangers (l : Launch) (D : va_G) (τ : Nat → ClassId) (ad : Nat → Nat) (sA sV : Nat → Nat) (sz : Nat)   (M : Mem) (hM : MR M) (Q : Int → Mem → Prop) (hv : qX12_strangers  M Q) : Met l yX12_strangers (lw_w yX12_strangers cX12_strangers 7 (some .int)) (rmk 2 0 0) (kPc D τ sA sV (WM τ ad M) sz [.ref (ad 1)]) (gQi D (EQi (WM τ ad) MR Q) (va_A (WM τ ad M) sz)) 0 0 (va_A (WM τ ad M) sz) := by
  refine k_met (ret := (some .int)) (Qc := gQi D (EQi (WM τ ad) MR Q)) (by decide +kernel) (Nat.le_of_ble_eq_true rfl) ?_
  intro p e s m args below meth c A ls hx hb hml hr hlk hnm hC hLS hA hw hl
  have hC : cx D τ s m args RX12 := hC
  have hl : lv_has ls 7 [(0, .ref (ad 1))] := hl
  unfold qX12_strangers at hv
  have L31 : ∀ (X128 : Int → Int → Int → Int → Mem → Prop), (∀ (v1 : Int) (v2 : Int) (v3 : Int) (v4 : Int) (M : Mem) (H : Heap) (locs : List Loc) (ls : Array Slot), MR M → X128 v1 v2 v3 v4 M → wS D A s.heap (WM τ ad M) H locs → lv_has ls 7 [(0, .ref (ad 1)), (1, .int (iI v1)), (2, .int (iI v2)), (3, .int (iI v3)), (4, .int (iI v4))] → W p l e (rmk 2 0 0) s m args below meth c H locs 0 0 (MQ below (gQi D (EQi (WM τ ad) MR Q) A) args s 0 0 A) (F0 m 128 ls [])) → ∀ (n : Nat) (v1 : Int) (v2 : Int) (v3 : Int) (v4 : Int) (v5 : Int) (M : Mem) (H : Heap) (locs : List Loc) (ls : Array Slot), MR M → qX12_strangers_L31  X128 Q n v1 v2 v3 v4 v5 M → wS D A s.heap (WM τ ad M) H locs → lv_has ls 7 [(0, .ref (ad 1)), (1, .int (iI v1)), (2, .int (iI v2)), (3, .int (iI v3)), (4, .int (iI v4)), (5, .int (iI v5))] → W p l e (rmk 2 0 0) s m args below meth c H locs 0 0 (MQ below (gQi D (EQi (WM τ ad) MR Q) A) args s 0 0 A) (F0 m 31 ls []) := by
    intro X128 hX128 n
    induction n with
    | zero => intro v1 v2 v3 v4 v5 M H locs ls hM hv; rw [qX12_strangers_L31] at hv; exact hv.elim
    | succ n ih =>
      intro v1 v2 v3 v4 v5 M H locs ls hM hv hw hl
      rw [qX12_strangers_L31] at hv
      refine lv_iload hx hb dX12_strangers_31 (lv_at hl 5 rfl) ?_
      refine lv_aload_n hx hb dX12_strangers_33 rfl (lv_at hl 0 rfl) ?_
      refine gf_X12_129 hx hb hC hw 1 (gM_1 τ ad M) rfl dX12_strangers_34 ?_
      refine r_top (fun x5 e5 => ?_)
      have g5 : iR x5 := by rw [e5]; exact hM.get (by decide) _
      have hv := hv x5 e5 g5
      obtain ⟨c6, hv⟩ := hv
      refine r_icmp_ge (tgt := 128) hx hb dX12_strangers_37 (by decide) c6 g5 (fun b7 => ?_) (fun b7 => ?_)
      · have hv := hv.1 b7
        exact hX128 v1 v2 v3 v4 M _ _ _ hM hv hw (lv_sub hl [0, 1, 2, 3, 4] rfl)
      · have hv := hv.2 b7
        refine lv_aload_n hx hb dX12_strangers_40 rfl (lv_at hl 0 rfl) ?_
        refine gf_X12_31 hx hb hC hw 1 (gM_1 τ ad M) rfl dX12_strangers_41 ?_
        refine r_bipush hx hb dX12_strangers_44 (by decide +kernel) ?_
        refine lv_iload hx hb dX12_strangers_46 (lv_at hl 4 rfl) ?_
        refine r_iadd (z := (13 + v4)) hx hb dX12_strangers_48 rfl ?_
        obtain ⟨c8, hv⟩ := hv
        obtain ⟨c9, hv⟩ := hv
        refine r_iald hx hb hC hw 5 (gI_M aM_5 τ ad M) c8 c9 (by decide) dX12_strangers_49 ?_
        refine r_top (fun x10 e10 => ?_)
        have g10 : iR x10 := by rw [e10]; exact hM.get aM_5.pos _
        have hv := hv x10 e10 g10
        refine lv_aload_n hx hb dX12_strangers_50 rfl (lv_at hl 0 rfl) ?_
        refine gf_X12_31 hx hb hC hw 1 (gM_1 τ ad M) rfl dX12_strangers_51 ?_
        refine r_bipush hx hb dX12_strangers_54 (by decide +kernel) ?_
        refine lv_iload hx hb dX12_strangers_56 (lv_at hl 5 rfl) ?_
        refine r_iadd (z := (13 + v5)) hx hb dX12_strangers_58 rfl ?_
        obtain ⟨c11, hv⟩ := hv
        obtain ⟨c12, hv⟩ := hv
        refine r_iald hx hb hC hw 5 (gI_M aM_5 τ ad M) c11 c12 (by decide) dX12_strangers_59 ?_
        refine r_top (fun x13 e13 => ?_)
        have g13 : iR x13 := by rw [e13]; exact hM.get aM_5.pos _
        have hv := hv x13 e13 g13
        refine r_isub (z := (x10 - x13)) hx hb dX12_strangers_60 rfl ?_
        obtain ⟨c14, hv⟩ := hv
        refine r_mabs hx hb hml hC hl.1 ml_X12_290 sm_abs in_J9 cd_abs (by decide) (Nat.le_of_ble_eq_true rfl) (Nat.zero_le _) (Nat.zero_le _) c14 dX12_strangers_61 (fun x15 e15 g15 => ?_)
        have hv := hv x15 e15 g15
        refine lv_istore (lv' := [(6, .int (iI x15)), (0, .ref (ad 1)), (1, .int (iI v1)), (2, .int (iI v2)), (3, .int (iI v3)), (4, .int (iI v4)), (5, .int (iI v5))]) hx hb dX12_strangers_64 hl (by decide) rfl (fun ls hl => ?_)
        refine lv_aload_n hx hb dX12_strangers_66 rfl (lv_at hl 1 rfl) ?_
        refine gf_X12_24 hx hb hC hw 1 (gM_1 τ ad M) rfl dX12_strangers_67 ?_
        refine lv_iload hx hb dX12_strangers_70 (lv_at hl 5 rfl) ?_
        obtain ⟨c16, hv⟩ := hv
        obtain ⟨c17, hv⟩ := hv
        refine r_iald hx hb hC hw 3 (gI_M aM_3 τ ad M) c16 c17 (by decide) dX12_strangers_72 ?_
        refine r_top (fun x18 e18 => ?_)
        have g18 : iR x18 := by rw [e18]; exact hM.get aM_3.pos _
        have hv := hv x18 e18 g18
        refine lv_aload_n hx hb dX12_strangers_73 rfl (lv_at hl 1 rfl) ?_
        refine gf_X12_24 hx hb hC hw 1 (gM_1 τ ad M) rfl dX12_strangers_74 ?_
        refine lv_iload hx hb dX12_strangers_77 (lv_at hl 6 rfl) ?_
        obtain ⟨c19, hv⟩ := hv
        obtain ⟨c20, hv⟩ := hv
        refine r_iald hx hb hC hw 3 (gI_M aM_3 τ ad M) c19 c20 (by decide) dX12_strangers_79 ?_
        refine r_top (fun x21 e21 => ?_)
        have g21 : iR x21 := by rw [e21]; exact hM.get aM_3.pos _
        have hv := hv x21 e21 g21
        refine r_icmp_eq (tgt := 122) hx hb dX12_strangers_80 (by decide) g18 g21 (fun b22 => ?_) (fun b22 => ?_)
        · have hv := hv.1 b22
          refine r_iinc (v := (v5 + 1)) (lv' := [(5, .int (iI (v5 + 1))), (6, .int (iI x15)), (0, .ref (ad 1)), (1, .int (iI v1)), (2, .int (iI v2)), (3, .int (iI v3)), (4, .int (iI v4))]) hx hb dX12_strangers_122 hl (k := 6) rfl rfl (by decide) rfl (fun ls hl => ?_)
          refine lv_goto (tgt := 31) hx hb dX12_strangers_125 (by decide) ?_
          exact ih v1 v2 v3 v4 (v5 + 1) M _ _ _ hM hv hw (lv_sub hl [2, 3, 4, 5, 6, 0] rfl)
        · have hv := hv.2 b22
          refine lv_aload_n hx hb dX12_strangers_83 rfl (lv_at hl 1 rfl) ?_
          refine gf_X12_31 hx hb hC hw 1 (gM_1 τ ad M) rfl dX12_strangers_84 ?_
          refine lv_iload hx hb dX12_strangers_87 (lv_at hl 5 rfl) ?_
          obtain ⟨c23, hv⟩ := hv
          refine k_cSz (wq_M τ ad) hx hb hml hC hLS hA hw hl.1 (mX12_isEnded l D τ ad sA sV _ 5 v4 aM_5 c23 M hM _ hv) kX12_isEnded ml_X12_132 rfl rfl (Nat.le_of_ble_eq_true rfl) (rm_ok (by decide) (by decide)) ⟨Nat.zero_le _, Nat.zero_le _⟩ dX12_strangers_89 (fun x24 M24 H locs g24 z24 hM hv hw => ?_)
          have hv := hv g24 z24
          refine r_if_ne (tgt := 122) hx hb dX12_strangers_92 (by decide) g24  (fun b25 => ?_) (fun b25 => ?_)
          · have hv := hv.1 b25
            refine r_iinc (v := (v5 + 1)) (lv' := [(5, .int (iI (v5 + 1))), (6, .int (iI x15)), (0, .ref (ad 1)), (1, .int (iI v1)), (2, .int (iI v2)), (3, .int (iI v3)), (4, .int (iI v4))]) hx hb dX12_strangers_122 hl (k := 6) rfl rfl (by decide) rfl (fun ls hl => ?_)
            refine lv_goto (tgt := 31) hx hb dX12_strangers_125 (by decide) ?_
            exact ih v1 v2 v3 v4 (v5 + 1) M24 _ _ _ hM hv hw (lv_sub hl [2, 3, 4, 5, 6, 0] rfl)
          · have hv := hv.2 b25
            refine lv_aload_n hx hb dX12_strangers_95 rfl (lv_at hl 1 rfl) ?_
            refine gf_X12_31 hx hb hC hw 1 (gM_1 τ ad M24) rfl dX12_strangers_96 ?_
            refine lv_iload hx hb dX12_strangers_99 (lv_at hl 6 rfl) ?_
            refine k_cSz (wq_M τ ad) hx hb hml hC hLS hA hw hl.1 (mX12_isEnded l D τ ad sA sV _ 5 v5 aM_5 c6 M24 hM _ hv) kX12_isEnded ml_X12_132 rfl rfl (Nat.le_of_ble_eq_true rfl) (rm_ok (by decide) (by decide)) ⟨Nat.zero_le _, Nat.zero_le _⟩ dX12_strangers_101 (fun x26 M26 H locs g26 z26 hM hv hw => ?_)
            have hv := hv g26 z26
            refine r_if_ne (tgt := 122) hx hb dX12_strangers_104 (by decide) g26  (fun b27 => ?_) (fun b27 => ?_)
            · have hv := hv.1 b27
              refine r_iinc (v := (v5 + 1)) (lv' := [(5, .int (iI (v5 + 1))), (6, .int (iI x15)), (0, .ref (ad 1)), (1, .int (iI v1)), (2, .int (iI v2)), (3, .int (iI v3)), (4, .int (iI v4))]) hx hb dX12_strangers_122 hl (k := 6) rfl rfl (by decide) rfl (fun ls hl => ?_)
              refine lv_goto (tgt := 31) hx hb dX12_strangers_125 (by decide) ?_
              exact ih v1 v2 v3 v4 (v5 + 1) M26 _ _ _ hM hv hw (lv_sub hl [2, 3, 4, 5, 6, 0] rfl)
            · have hv := hv.2 b27
              refine lv_iload hx hb dX12_strangers_107 (lv_at hl 0 rfl) ?_
              refine lv_iload_n hx hb dX12_strangers_109 rfl (lv_at hl 2 rfl) ?_
              obtain ⟨c28, hv⟩ := hv
              obtain ⟨c29, hv⟩ := hv
              refine r_icmp_ge (tgt := 122) hx hb dX12_strangers_110 (by decide) c28 c29 (fun b30 => ?_) (fun b30 => ?_)
              · have hv := hv.1 b30
                refine r_iinc (v := (v5 + 1)) (lv' := [(5, .int (iI (v5 + 1))), (6, .int (iI x15)), (0, .ref (ad 1)), (1, .int (iI v1)), (2, .int (iI v2)), (3, .int (iI v3)), (4, .int (iI v4))]) hx hb dX12_strangers_122 hl (k := 6) rfl rfl (by decide) rfl (fun ls hl => ?_)
                refine lv_goto (tgt := 31) hx hb dX12_strangers_125 (by decide) ?_
                exact ih v1 v2 v3 v4 (v5 + 1) M26 _ _ _ hM hv hw (lv_sub hl [2, 3, 4, 5, 6, 0] rfl)
              · have hv := hv.2 b30
                refine lv_iload hx hb dX12_strangers_113 (lv_at hl 0 rfl) ?_
                refine lv_istore_n (lv' := [(1, .int (iI x15)), (6, .int (iI x15)), (0, .ref (ad 1)), (2, .int (iI v2)), (3, .int (iI v3)), (4, .int (iI v4)), (5, .int (iI v5))]) hx hb dX12_strangers_115 rfl hl (by decide) rfl (fun ls hl => ?_)
                refine lv_iload hx hb dX12_strangers_116 (lv_at hl 5 rfl) ?_
                refine lv_istore_n (lv' := [(2, .int (iI v4)), (1, .int (iI x15)), (6, .int (iI x15)), (0, .ref (ad 1)), (3, .int (iI v3)), (4, .int (iI v4)), (5, .int (iI v5))]) hx hb dX12_strangers_118 rfl hl (by decide) rfl (fun ls hl => ?_)
                refine lv_iload hx hb dX12_strangers_119 (lv_at hl 6 rfl) ?_
                refine lv_istore_n (lv' := [(3, .int (iI v5)), (2, .int (iI v4)), (1, .int (iI x15)), (6, .int (iI x15)), (0, .ref (ad 1)), (4, .int (iI v4)), (5, .int (iI v5))]) hx hb dX12_strangers_121 rfl hl (by decide) rfl (fun ls hl => ?_)
                refine r_iinc (v := (v5 + 1)) (lv' := [(5, .int (iI (v5 + 1))), (3, .int (iI v5)), (2, .int (iI v4)), (1, .int (iI x15)), (6, .int (iI x15)), (0, .ref (ad 1)), (4, .int (iI v4))]) hx hb dX12_strangers_122 hl (k := 6) rfl rfl (by decide) rfl (fun ls hl => ?_)
                refine lv_goto (tgt := 31) hx hb dX12_strangers_125 (by decide) ?_
                exact ih x15 v4 v5 v4 (v5 + 1) M26 _ _ _ hM hv hw (lv_sub hl [5, 3, 2, 1, 6, 0] rfl)
  have L16 : ∀ (X134 : Int → Int → Int → Mem → Prop), (∀ (v1 : Int) (v2 : Int) (v3 : Int) (M : Mem) (H : Heap) (locs : List Loc) (ls : Array Slot), MR M → X134 v1 v2 v3 M → wS D A s.heap (WM τ ad M) H locs → lv_has ls 7 [(0, .ref (ad 1)), (1, .int (iI v1)), (2, .int (iI v2)), (3, .int (iI v3))] → W p l e (rmk 2 0 0) s m args below meth c H locs 0 0 (MQ below (gQi D (EQi (WM τ ad) MR Q) A) args s 0 0 A) (F0 m 134 ls [])) → ∀ (n : Nat) (v1 : Int) (v2 : Int) (v3 : Int) (v4 : Int) (M : Mem) (H : Heap) (locs : List Loc) (ls : Array Slot), MR M → qX12_strangers_L16  X134 Q n v1 v2 v3 v4 M → wS D A s.heap (WM τ ad M) H locs → lv_has ls 7 [(0, .ref (ad 1)), (1, .int (iI v1)), (2, .int (iI v2)), (3, .int (iI v3)), (4, .int (iI v4))] → W p l e (rmk 2 0 0) s m args below meth c H locs 0 0 (MQ below (gQi D (EQi (WM τ ad) MR Q) A) args s 0 0 A) (F0 m 16 ls []) := by
    intro X134 hX134 n
    induction n with
    | zero => intro v1 v2 v3 v4 M H locs ls hM hv; rw [qX12_strangers_L16] at hv; exact hv.elim
    | succ n ih =>
      intro v1 v2 v3 v4 M H locs ls hM hv hw hl
      rw [qX12_strangers_L16] at hv
      refine lv_iload hx hb dX12_strangers_16 (lv_at hl 4 rfl) ?_
      refine lv_aload_n hx hb dX12_strangers_18 rfl (lv_at hl 0 rfl) ?_
      refine gf_X12_129 hx hb hC hw 1 (gM_1 τ ad M) rfl dX12_strangers_19 ?_
      refine r_top (fun x2 e2 => ?_)
      have g2 : iR x2 := by rw [e2]; exact hM.get (by decide) _
      have hv := hv x2 e2 g2
      obtain ⟨c3, hv⟩ := hv
      refine r_icmp_ge (tgt := 134) hx hb dX12_strangers_22 (by decide) c3 g2 (fun b4 => ?_) (fun b4 => ?_)
      · have hv := hv.1 b4
        exact hX134 v1 v2 v3 M _ _ _ hM hv hw (lv_sub hl [0, 1, 2, 3] rfl)
      · have hv := hv.2 b4
        refine lv_iload hx hb dX12_strangers_25 (lv_at hl 4 rfl) ?_
        refine r_iconst hx hb dX12_strangers_27 ?_
        refine r_iadd (z := (v4 + 1)) hx hb dX12_strangers_28 rfl ?_
        refine lv_istore (lv' := [(5, .int (iI (v4 + 1))), (0, .ref (ad 1)), (1, .int (iI v1)), (2, .int (iI v2)), (3, .int (iI v3)), (4, .int (iI v4))]) hx hb dX12_strangers_29 hl (by decide) rfl (fun ls hl => ?_)
        obtain ⟨n31, hv⟩ := hv
        refine L31 _ ?_ n31 v1 v2 v3 v4 (v4 + 1) M _ _ _ hM hv hw (lv_sub hl [1, 2, 3, 4, 5, 0] rfl)
        · intro v1 v2 v3 v4 M H locs ls hM hv hw hl
          refine r_iinc (v := (v4 + 1)) (lv' := [(4, .int (iI (v4 + 1))), (0, .ref (ad 1)), (1, .int (iI v1)), (2, .int (iI v2)), (3, .int (iI v3))]) hx hb dX12_strangers_128 hl (k := 4) rfl rfl (by decide) rfl (fun ls hl => ?_)
          refine lv_goto (tgt := 16) hx hb dX12_strangers_131 (by decide) ?_
          exact ih v1 v2 v3 (v4 + 1) M _ _ _ hM hv hw (lv_sub hl [1, 2, 3, 4, 0] rfl)
  refine lv_aload_n hx hb dX12_strangers_0 rfl (lv_at hl 0 rfl) ?_
  refine r_iconst hx hb dX12_strangers_1 ?_
  obtain ⟨M1, e1⟩ : ∃ M1 : Mem, M1 = up2 M 1 0 0 := ⟨_, rfl⟩
  have hv := hv M1 e1
  refine pf_X12_112 (ws' := (WM τ ad M1)) hx hb hC hw 1 (gM_1 τ ad M) (Nat.le_of_ble_eq_true rfl) (by rw [e1]; exact sM_1_0 τ ad M _) dX12_strangers_2 (fun H locs hw => ?_)
  have hM : MR M1 := by rw [e1]; exact hM.put (by decide) (by decide)
  refine r_ldcw (z := 1000000) hx hb hC ct_X12_293 (by decide +kernel) dX12_strangers_5 ?_
  refine lv_istore_n (lv' := [(1, .int (iI 1000000)), (0, .ref (ad 1))]) hx hb dX12_strangers_8 rfl hl (by decide) rfl (fun ls hl => ?_)
  refine r_iconst hx hb dX12_strangers_9 ?_
  refine lv_istore_n (lv' := [(2, .int (iI (-1))), (1, .int (iI 1000000)), (0, .ref (ad 1))]) hx hb dX12_strangers_10 rfl hl (by decide) rfl (fun ls hl => ?_)
  refine r_iconst hx hb dX12_strangers_11 ?_
  refine lv_istore_n (lv' := [(3, .int (iI (-1))), (2, .int (iI (-1))), (1, .int (iI 1000000)), (0, .ref (ad 1))]) hx hb dX12_strangers_12 rfl hl (by decide) rfl (fun ls hl => ?_)
  refine r_iconst hx hb dX12_strangers_13 ?_
  refine lv_istore (lv' := [(4, .int (iI 0)), (3, .int (iI (-1))), (2, .int (iI (-1))), (1, .int (iI 1000000)), (0, .ref (ad 1))]) hx hb dX12_strangers_14 hl (by decide) rfl (fun ls hl => ?_)
  obtain ⟨n32, hv⟩ := hv
  refine L16 _ ?_ n32 1000000 (-1) (-1) 0 M1 _ _ _ hM hv hw (lv_sub hl [4, 3, 2, 1, 0] rfl)
  · intro v1 v2 v3 M H locs ls hM hv hw hl
    refine lv_iload_n hx hb dX12_strangers_134 rfl (lv_at hl 2 rfl) ?_
    obtain ⟨c33, hv⟩ := hv
    refine r_if_ge (tgt := 141) hx hb dX12_strangers_135 (by decide) c33  (fun b34 => ?_) (fun b34 => ?_)
    · have hv := hv.1 b34
      refine lv_aload_n hx hb dX12_strangers_141 rfl (lv_at hl 0 rfl) ?_
      refine r_iconst hx hb dX12_strangers_142 ?_
      obtain ⟨M35, e35⟩ : ∃ M35 : Mem, M35 = up2 M 1 1 0 := ⟨_, rfl⟩
      have hv := hv M35 e35
      refine pf_X12_119 (ws' := (WM τ ad M35)) hx hb hC hw 1 (gM_1 τ ad M) (Nat.le_of_ble_eq_true rfl) (by rw [e35]; exact sM_1_1 τ ad M _) dX12_strangers_143 (fun H locs hw => ?_)
      have hM : MR M35 := by rw [e35]; exact hM.put (by decide) (by decide)
      refine lv_aload_n hx hb dX12_strangers_146 rfl (lv_at hl 0 rfl) ?_
      refine lv_iload_n hx hb dX12_strangers_147 rfl (lv_at hl 2 rfl) ?_
      refine r_i2l hx hb dX12_strangers_148 c33 ?_
      refine k_cVv (wq_M τ ad) hx hb hml hC hLS hA hw hl.1 (mX12_enters l D τ ad sA sV _ v2 (iR_lR c33) M35 hM _ hv) kX12_enters ml_X12_358 rfl (gM_1 τ ad M35) rfl rfl (Nat.le_of_ble_eq_true rfl) (rm_ok (by decide) (by decide)) ⟨Nat.zero_le _, Nat.zero_le _⟩ dX12_strangers_149 (fun M36 H locs hM hv hw => ?_)
      refine lv_aload_n hx hb dX12_strangers_152 rfl (lv_at hl 0 rfl) ?_
      refine lv_iload_n hx hb dX12_strangers_153 rfl (lv_at hl 3 rfl) ?_
      obtain ⟨c37, hv⟩ := hv
      refine r_i2l hx hb dX12_strangers_154 c37 ?_
      refine k_cVv (wq_M τ ad) hx hb hml hC hLS hA hw hl.1 (mX12_enters l D τ ad sA sV _ v3 (iR_lR c37) M36 hM _ hv) kX12_enters ml_X12_358 rfl (gM_1 τ ad M36) rfl rfl (Nat.le_of_ble_eq_true rfl) (rm_ok (by decide) (by decide)) ⟨Nat.zero_le _, Nat.zero_le _⟩ dX12_strangers_155 (fun M38 H locs hM hv hw => ?_)
      refine lv_iload_n hx hb dX12_strangers_158 rfl (lv_at hl 1 rfl) ?_
      obtain ⟨c39, hv⟩ := hv
      exact k_iret (wq_M τ ad) hx hb hr hlk hw hM c39 hv dX12_strangers_159
    · have hv := hv.2 b34
      refine r_bipush hx hb dX12_strangers_138 (by decide +kernel) ?_
      exact k_iret (wq_M τ ad) hx hb hr hlk hw hM (by decide) hv dX12_strangers_140
set_option maxHeartbeats 4000000 in
set_option maxRecDepth 100000 in
theorem mX12_doubts (l : Launch) (D : va_G) (τ : Nat → ClassId) (ad : Nat → Nat) (sA sV : Nat → Nat) (sz : Nat)   (M : Mem) (hM : MR M) (Q : Int → Mem → Prop) (hv : qX12_doubts  M Q) : Met l yX12_doubts (lw_w yX12_doubts cX12_doubts 6 (some .int)) (rmk 3 0 0) (kPc D τ sA sV (WM τ ad M) sz [.ref (ad 1)]) (gQi D (EQi (WM τ ad) MR Q) (va_A (WM τ ad M) sz)) 0 0 (va_A (WM τ ad M) sz) := by
  refine k_met (ret := (some .int)) (Qc := gQi D (EQi (WM τ ad) MR Q)) (by decide +kernel) (Nat.le_of_ble_eq_true rfl) ?_
  intro p e s m args below meth c A ls hx hb hml hr hlk hnm hC hLS hA hw hl
  have hC : cx D τ s m args RX12 := hC
  have hl : lv_has ls 6 [(0, .ref (ad 1))] := hl
  unfold qX12_doubts at hv
  have J115 : ∀ (R : Int → Int → Int → Int → Int → Mem → Prop), (∀ (v1 : Int) (v2 : Int) (v3 : Int) (v4 : Int) (v5 : Int) (M : Mem) (H : Heap) (locs : List Loc) (ls : Array Slot), MR M → R v1 v2 v3 v4 v5 M → wS D A s.heap (WM τ ad M) H locs → lv_has ls 6 [(0, .ref (ad 1)), (1, .int (iI v1)), (2, .int (iI v2)), (3, .int (iI v3)), (4, .int (iI v4)), (5, .int (iI v5))] → W p l e (rmk 3 0 0) s m args below meth c H locs 0 0 (MQ below (gQi D (EQi (WM τ ad) MR Q) A) args s 0 0 A) (F0 m 41 ls [])) → ∀ (X127 : Int → Int → Int → Mem → Prop), (∀ (v1 : Int) (v2 : Int) (v4 : Int) (M : Mem) (H : Heap) (locs : List Loc) (ls : Array Slot), MR M → X127 v1 v2 v4 M → wS D A s.heap (WM τ ad M) H locs → lv_has ls 6 [(0, .ref (ad 1)), (1, .int (iI v1)), (2, .int (iI v2)), (4, .int (iI v4))] → W p l e (rmk 3 0 0) s m args below meth c H locs 0 0 (MQ below (gQi D (EQi (WM τ ad) MR Q) A) args s 0 0 A) (F0 m 127 ls [])) → ∀ (v1 : Int) (v2 : Int) (v3 : Int) (v5 : Int) (t0 : Int) (t1 : Int) (M : Mem) (H : Heap) (locs : List Loc) (ls : Array Slot), MR M → qX12_doubts_J115  R X127 Q v1 v2 v3 v5 t0 t1 M → wS D A s.heap (WM τ ad M) H locs → lv_has ls 6 [(0, .ref (ad 1)), (1, .int (iI v1)), (2, .int (iI v2)), (3, .int (iI v3)), (5, .int (iI v5))] → W p l e (rmk 3 0 0) s m args below meth c H locs 0 0 (MQ below (gQi D (EQi (WM τ ad) MR Q) A) args s 0 0 A) (F0 m 115 ls [.int (iI t0), .int (iI t1)]) := by
    intro R hR X127 hX127 v1 v2 v3 v5 t0 t1 M H locs ls hM hv hw hl
    unfold qX12_doubts_J115 at hv
    obtain ⟨c16, hv⟩ := hv
    refine k_cSi (wq_M τ ad) hx hb hml hC hLS hA hw hl.1 (mX12_flag l D τ ad sA sV _ t0 c16 M hM _ hv) kX12_flag ml_X12_154 rfl rfl (Nat.le_of_ble_eq_true rfl) (rm_ok (by decide) (by decide)) ⟨Nat.zero_le _, Nat.zero_le _⟩ dX12_doubts_115 (fun x17 M17 H locs g17 hM hv hw => ?_)
    have hv := hv g17
    refine r_iadd (z := (t1 + x17)) hx hb dX12_doubts_118 rfl ?_
    refine lv_istore (lv' := [(4, .int (iI (t1 + x17))), (0, .ref (ad 1)), (1, .int (iI v1)), (2, .int (iI v2)), (3, .int (iI v3)), (5, .int (iI v5))]) hx hb dX12_doubts_119 hl (by decide) rfl (fun ls hl => ?_)
    refine r_iinc (v := (v5 + 1)) (lv' := [(5, .int (iI (v5 + 1))), (4, .int (iI (t1 + x17))), (0, .ref (ad 1)), (1, .int (iI v1)), (2, .int (iI v2)), (3, .int (iI v3))]) hx hb dX12_doubts_121 hl (k := 5) rfl rfl (by decide) rfl (fun ls hl => ?_)
    refine lv_goto (tgt := 41) hx hb dX12_doubts_124 (by decide) ?_
    exact hR v1 v2 v3 (t1 + x17) (v5 + 1) M17 _ _ _ hM hv hw (lv_sub hl [2, 3, 4, 5, 1, 0] rfl)
  have J114 : ∀ (R : Int → Int → Int → Int → Int → Mem → Prop), (∀ (v1 : Int) (v2 : Int) (v3 : Int) (v4 : Int) (v5 : Int) (M : Mem) (H : Heap) (locs : List Loc) (ls : Array Slot), MR M → R v1 v2 v3 v4 v5 M → wS D A s.heap (WM τ ad M) H locs → lv_has ls 6 [(0, .ref (ad 1)), (1, .int (iI v1)), (2, .int (iI v2)), (3, .int (iI v3)), (4, .int (iI v4)), (5, .int (iI v5))] → W p l e (rmk 3 0 0) s m args below meth c H locs 0 0 (MQ below (gQi D (EQi (WM τ ad) MR Q) A) args s 0 0 A) (F0 m 41 ls [])) → ∀ (X127 : Int → Int → Int → Mem → Prop), (∀ (v1 : Int) (v2 : Int) (v4 : Int) (M : Mem) (H : Heap) (locs : List Loc) (ls : Array Slot), MR M → X127 v1 v2 v4 M → wS D A s.heap (WM τ ad M) H locs → lv_has ls 6 [(0, .ref (ad 1)), (1, .int (iI v1)), (2, .int (iI v2)), (4, .int (iI v4))] → W p l e (rmk 3 0 0) s m args below meth c H locs 0 0 (MQ below (gQi D (EQi (WM τ ad) MR Q) A) args s 0 0 A) (F0 m 127 ls [])) → ∀ (v1 : Int) (v2 : Int) (v3 : Int) (v5 : Int) (t0 : Int) (M : Mem) (H : Heap) (locs : List Loc) (ls : Array Slot), MR M → qX12_doubts_J114  R X127 Q v1 v2 v3 v5 t0 M → wS D A s.heap (WM τ ad M) H locs → lv_has ls 6 [(0, .ref (ad 1)), (1, .int (iI v1)), (2, .int (iI v2)), (3, .int (iI v3)), (5, .int (iI v5))] → W p l e (rmk 3 0 0) s m args below meth c H locs 0 0 (MQ below (gQi D (EQi (WM τ ad) MR Q) A) args s 0 0 A) (F0 m 114 ls [.int (iI t0)]) := by
    intro R hR X127 hX127 v1 v2 v3 v5 t0 M H locs ls hM hv hw hl
    unfold qX12_doubts_J114 at hv
    refine r_iconst hx hb dX12_doubts_114 ?_
    exact J115 _ hR _ hX127 v1 v2 v3 v5 0 t0 M _ _ _ hM hv hw (lv_sub hl [0, 1, 2, 3, 4] rfl)
  have L41 : ∀ (X127 : Int → Int → Int → Mem → Prop), (∀ (v1 : Int) (v2 : Int) (v4 : Int) (M : Mem) (H : Heap) (locs : List Loc) (ls : Array Slot), MR M → X127 v1 v2 v4 M → wS D A s.heap (WM τ ad M) H locs → lv_has ls 6 [(0, .ref (ad 1)), (1, .int (iI v1)), (2, .int (iI v2)), (4, .int (iI v4))] → W p l e (rmk 3 0 0) s m args below meth c H locs 0 0 (MQ below (gQi D (EQi (WM τ ad) MR Q) A) args s 0 0 A) (F0 m 127 ls [])) → ∀ (n : Nat) (v1 : Int) (v2 : Int) (v3 : Int) (v4 : Int) (v5 : Int) (M : Mem) (H : Heap) (locs : List Loc) (ls : Array Slot), MR M → qX12_doubts_L41  X127 Q n v1 v2 v3 v4 v5 M → wS D A s.heap (WM τ ad M) H locs → lv_has ls 6 [(0, .ref (ad 1)), (1, .int (iI v1)), (2, .int (iI v2)), (3, .int (iI v3)), (4, .int (iI v4)), (5, .int (iI v5))] → W p l e (rmk 3 0 0) s m args below meth c H locs 0 0 (MQ below (gQi D (EQi (WM τ ad) MR Q) A) args s 0 0 A) (F0 m 41 ls []) := by
    intro X127 hX127 n
    induction n with
    | zero => intro v1 v2 v3 v4 v5 M H locs ls hM hv; rw [qX12_doubts_L41] at hv; exact hv.elim
    | succ n ih =>
      intro v1 v2 v3 v4 v5 M H locs ls hM hv hw hl
      rw [qX12_doubts_L41] at hv
      refine lv_iload hx hb dX12_doubts_41 (lv_at hl 5 rfl) ?_
      refine lv_aload_n hx hb dX12_doubts_43 rfl (lv_at hl 0 rfl) ?_
      refine gf_X12_122 hx hb hC hw 1 (gM_1 τ ad M) rfl dX12_doubts_44 ?_
      refine r_top (fun x9 e9 => ?_)
      have g9 : iR x9 := by rw [e9]; exact hM.get (by decide) _
      have hv := hv x9 e9 g9
      obtain ⟨c10, hv⟩ := hv
      refine r_icmp_ge (tgt := 127) hx hb dX12_doubts_47 (by decide) c10 g9 (fun b11 => ?_) (fun b11 => ?_)
      · have hv := hv.1 b11
        exact hX127 v1 v2 v4 M _ _ _ hM hv hw (lv_sub hl [0, 1, 2, 4] rfl)
      · have hv := hv.2 b11
        refine lv_iload_n hx hb dX12_doubts_50 rfl (lv_at hl 3 rfl) ?_
        obtain ⟨c12, hv⟩ := hv
        refine r_if_lt (tgt := 127) hx hb dX12_doubts_51 (by decide) c12  (fun b13 => ?_) (fun b13 => ?_)
        · have hv := hv.1 b13
          exact hX127 v1 v2 v4 M _ _ _ hM hv hw (lv_sub hl [0, 1, 2, 4] rfl)
        · have hv := hv.2 b13
          refine lv_iload hx hb dX12_doubts_54 (lv_at hl 4 rfl) ?_
          refine lv_aload_n hx hb dX12_doubts_56 rfl (lv_at hl 0 rfl) ?_
          refine gf_X12_31 hx hb hC hw 1 (gM_1 τ ad M) rfl dX12_doubts_57 ?_
          refine lv_iload hx hb dX12_doubts_60 (lv_at hl 5 rfl) ?_
          refine k_cSz (wq_M τ ad) hx hb hml hC hLS hA hw hl.1 (mX12_isOn l D τ ad sA sV _ 5 v5 aM_5 c10 M hM _ hv) kX12_isOn ml_X12_266 rfl rfl (Nat.le_of_ble_eq_true rfl) (rm_ok (by decide) (by decide)) ⟨Nat.zero_le _, Nat.zero_le _⟩ dX12_doubts_62 (fun x14 M14 H locs g14 z14 hM hv hw => ?_)
          have hv := hv g14 z14
          refine r_if_eq (tgt := 114) hx hb dX12_doubts_65 (by decide) g14  (fun b15 => ?_) (fun b15 => ?_)
          · have hv := hv.1 b15
            exact J114 _ ih _ hX127 v1 v2 v3 v5 v4 M14 _ _ _ hM hv hw (lv_sub hl [0, 1, 2, 3, 5] rfl)
          · have hv := hv.2 b15
            refine lv_aload_n hx hb dX12_doubts_68 rfl (lv_at hl 0 rfl) ?_
            refine gf_X12_31 hx hb hC hw 1 (gM_1 τ ad M14) rfl dX12_doubts_69 ?_
            refine lv_iload hx hb dX12_doubts_72 (lv_at hl 5 rfl) ?_
            obtain ⟨c18, hv⟩ := hv
            obtain ⟨c19, hv⟩ := hv
            refine r_iald hx hb hC hw 5 (gI_M aM_5 τ ad M14) c18 c19 (by decide) dX12_doubts_74 ?_
            refine r_top (fun x20 e20 => ?_)
            have g20 : iR x20 := by rw [e20]; exact hM.get aM_5.pos _
            have hv := hv x20 e20 g20
            refine lv_aload_n hx hb dX12_doubts_75 rfl (lv_at hl 0 rfl) ?_
            refine gf_X12_31 hx hb hC hw 1 (gM_1 τ ad M14) rfl dX12_doubts_76 ?_
            refine r_bipush hx hb dX12_doubts_79 (by decide +kernel) ?_
            refine lv_iload_n hx hb dX12_doubts_81 rfl (lv_at hl 2 rfl) ?_
            refine r_iadd (z := (13 + v2)) hx hb dX12_doubts_82 rfl ?_
            obtain ⟨c21, hv⟩ := hv
            obtain ⟨c22, hv⟩ := hv
            refine r_iald hx hb hC hw 5 (gI_M aM_5 τ ad M14) c21 c22 (by decide) dX12_doubts_83 ?_
            refine r_top (fun x23 e23 => ?_)
            have g23 : iR x23 := by rw [e23]; exact hM.get aM_5.pos _
            have hv := hv x23 e23 g23
            refine r_isub (z := (x20 - x23)) hx hb dX12_doubts_84 rfl ?_
            obtain ⟨c24, hv⟩ := hv
            refine r_mabs hx hb hml hC hl.1 ml_X12_290 sm_abs in_J9 cd_abs (by decide) (Nat.le_of_ble_eq_true rfl) (Nat.zero_le _) (Nat.zero_le _) c24 dX12_doubts_85 (fun x25 e25 g25 => ?_)
            have hv := hv x25 e25 g25
            refine lv_aload_n hx hb dX12_doubts_88 rfl (lv_at hl 0 rfl) ?_
            refine gf_X12_31 hx hb hC hw 1 (gM_1 τ ad M14) rfl dX12_doubts_89 ?_
            refine lv_iload_n hx hb dX12_doubts_92 rfl (lv_at hl 3 rfl) ?_
            obtain ⟨c26, hv⟩ := hv
            obtain ⟨c27, hv⟩ := hv
            refine r_iald hx hb hC hw 5 (gI_M aM_5 τ ad M14) c26 c27 (by decide) dX12_doubts_93 ?_
            refine r_top (fun x28 e28 => ?_)
            have g28 : iR x28 := by rw [e28]; exact hM.get aM_5.pos _
            have hv := hv x28 e28 g28
            refine lv_aload_n hx hb dX12_doubts_94 rfl (lv_at hl 0 rfl) ?_
            refine gf_X12_31 hx hb hC hw 1 (gM_1 τ ad M14) rfl dX12_doubts_95 ?_
            refine r_bipush hx hb dX12_doubts_98 (by decide +kernel) ?_
            refine lv_iload_n hx hb dX12_doubts_100 rfl (lv_at hl 2 rfl) ?_
            refine r_iadd (z := (13 + v2)) hx hb dX12_doubts_101 rfl ?_
            refine r_iald hx hb hC hw 5 (gI_M aM_5 τ ad M14) c21 c22 (by decide) dX12_doubts_102 ?_
            refine r_top (fun x29 e29 => ?_)
            have g29 : iR x29 := by rw [e29]; exact hM.get aM_5.pos _
            have hv := hv x29 e29 g29
            refine r_isub (z := (x28 - x29)) hx hb dX12_doubts_103 rfl ?_
            obtain ⟨c30, hv⟩ := hv
            refine r_mabs hx hb hml hC hl.1 ml_X12_290 sm_abs in_J9 cd_abs (by decide) (Nat.le_of_ble_eq_true rfl) (Nat.zero_le _) (Nat.zero_le _) c30 dX12_doubts_104 (fun x31 e31 g31 => ?_)
            have hv := hv x31 e31 g31
            obtain ⟨c32, hv⟩ := hv
            obtain ⟨c33, hv⟩ := hv
            refine r_icmp_ne (tgt := 114) hx hb dX12_doubts_107 (by decide) c32 c33 (fun b34 => ?_) (fun b34 => ?_)
            · have hv := hv.1 b34
              exact J114 _ ih _ hX127 v1 v2 v3 v5 v4 M14 _ _ _ hM hv hw (lv_sub hl [0, 1, 2, 3, 5] rfl)
            · have hv := hv.2 b34
              refine r_iconst hx hb dX12_doubts_110 ?_
              refine lv_goto (tgt := 115) hx hb dX12_doubts_111 (by decide) ?_
              exact J115 _ ih _ hX127 v1 v2 v3 v5 1 v4 M14 _ _ _ hM hv hw (lv_sub hl [0, 1, 2, 3, 5] rfl)
  have J127 : ∀ (R : Int → Int → Mem → Prop), (∀ (v1 : Int) (v2 : Int) (M : Mem) (H : Heap) (locs : List Loc) (ls : Array Slot), MR M → R v1 v2 M → wS D A s.heap (WM τ ad M) H locs → lv_has ls 6 [(0, .ref (ad 1)), (1, .int (iI v1)), (2, .int (iI v2))] → W p l e (rmk 3 0 0) s m args below meth c H locs 0 0 (MQ below (gQi D (EQi (WM τ ad) MR Q) A) args s 0 0 A) (F0 m 9 ls [])) → ∀ (X160 : Int → Mem → Prop), (∀ (v1 : Int) (M : Mem) (H : Heap) (locs : List Loc) (ls : Array Slot), MR M → X160 v1 M → wS D A s.heap (WM τ ad M) H locs → lv_has ls 6 [(0, .ref (ad 1)), (1, .int (iI v1))] → W p l e (rmk 3 0 0) s m args below meth c H locs 0 0 (MQ below (gQi D (EQi (WM τ ad) MR Q) A) args s 0 0 A) (F0 m 160 ls [])) → ∀ (v1 : Int) (v2 : Int) (v4 : Int) (M : Mem) (H : Heap) (locs : List Loc) (ls : Array Slot), MR M → qX12_doubts_J127  R X160 Q v1 v2 v4 M → wS D A s.heap (WM τ ad M) H locs → lv_has ls 6 [(0, .ref (ad 1)), (1, .int (iI v1)), (2, .int (iI v2)), (4, .int (iI v4))] → W p l e (rmk 3 0 0) s m args below meth c H locs 0 0 (MQ below (gQi D (EQi (WM τ ad) MR Q) A) args s 0 0 A) (F0 m 127 ls []) := by
    intro R hR X160 hX160 v1 v2 v4 M H locs ls hM hv hw hl
    unfold qX12_doubts_J127 at hv
    refine lv_iload_n hx hb dX12_doubts_127 rfl (lv_at hl 1 rfl) ?_
    refine lv_iload hx hb dX12_doubts_128 (lv_at hl 3 rfl) ?_
    refine r_iconst hx hb dX12_doubts_130 ?_
    obtain ⟨c36, hv⟩ := hv
    refine r_icmp_le (tgt := 151) hx hb dX12_doubts_131 (by decide) c36 (by decide) (fun b37 => ?_) (fun b37 => ?_)
    · have hv := hv.1 b37
      refine r_iconst hx hb dX12_doubts_151 ?_
      refine r_iorF hx hb dX12_doubts_152 (fun x38 e38 g38 => ?_)
      have hv := hv x38 e38 g38
      refine lv_istore_n (lv' := [(1, .int (iI x38)), (0, .ref (ad 1)), (2, .int (iI v2)), (4, .int (iI v4))]) hx hb dX12_doubts_153 rfl hl (by decide) rfl (fun ls hl => ?_)
      refine r_iinc (v := (v2 + 1)) (lv' := [(2, .int (iI (v2 + 1))), (1, .int (iI x38)), (0, .ref (ad 1)), (4, .int (iI v4))]) hx hb dX12_doubts_154 hl (k := 2) rfl rfl (by decide) rfl (fun ls hl => ?_)
      refine lv_goto (tgt := 9) hx hb dX12_doubts_157 (by decide) ?_
      exact hR x38 (v2 + 1) M _ _ _ hM hv hw (lv_sub hl [2, 1, 0] rfl)
    · have hv := hv.2 b37
      refine lv_aload_n hx hb dX12_doubts_134 rfl (lv_at hl 0 rfl) ?_
      refine gf_X12_31 hx hb hC hw 1 (gM_1 τ ad M) rfl dX12_doubts_135 ?_
      refine lv_iload_n hx hb dX12_doubts_138 rfl (lv_at hl 2 rfl) ?_
      obtain ⟨c39, hv⟩ := hv
      refine k_cSz (wq_M τ ad) hx hb hml hC hLS hA hw hl.1 (mX12_isEnded l D τ ad sA sV _ 5 v2 aM_5 c39 M hM _ hv) kX12_isEnded ml_X12_132 rfl rfl (Nat.le_of_ble_eq_true rfl) (rm_ok (by decide) (by decide)) ⟨Nat.zero_le _, Nat.zero_le _⟩ dX12_doubts_139 (fun x40 M40 H locs g40 z40 hM hv hw => ?_)
      have hv := hv g40 z40
      refine r_if_ne (tgt := 151) hx hb dX12_doubts_142 (by decide) g40  (fun b41 => ?_) (fun b41 => ?_)
      · have hv := hv.1 b41
        refine r_iconst hx hb dX12_doubts_151 ?_
        refine r_iorF hx hb dX12_doubts_152 (fun x42 e42 g42 => ?_)
        have hv := hv x42 e42 g42
        refine lv_istore_n (lv' := [(1, .int (iI x42)), (0, .ref (ad 1)), (2, .int (iI v2)), (4, .int (iI v4))]) hx hb dX12_doubts_153 rfl hl (by decide) rfl (fun ls hl => ?_)
        refine r_iinc (v := (v2 + 1)) (lv' := [(2, .int (iI (v2 + 1))), (1, .int (iI x42)), (0, .ref (ad 1)), (4, .int (iI v4))]) hx hb dX12_doubts_154 hl (k := 2) rfl rfl (by decide) rfl (fun ls hl => ?_)
        refine lv_goto (tgt := 9) hx hb dX12_doubts_157 (by decide) ?_
        exact hR x42 (v2 + 1) M40 _ _ _ hM hv hw (lv_sub hl [2, 1, 0] rfl)
      · have hv := hv.2 b41
        refine r_iconst hx hb dX12_doubts_145 ?_
        refine lv_iload_n hx hb dX12_doubts_146 rfl (lv_at hl 2 rfl) ?_
        refine r_ishlF hx hb dX12_doubts_147 (fun x43 e43 g43 => ?_)
        have hv := hv x43 e43 g43
        refine lv_goto (tgt := 152) hx hb dX12_doubts_148 (by decide) ?_
        refine r_iorF hx hb dX12_doubts_152 (fun x44 e44 g44 => ?_)
        have hv := hv x44 e44 g44
        refine lv_istore_n (lv' := [(1, .int (iI x44)), (0, .ref (ad 1)), (2, .int (iI v2)), (4, .int (iI v4))]) hx hb dX12_doubts_153 rfl hl (by decide) rfl (fun ls hl => ?_)
        refine r_iinc (v := (v2 + 1)) (lv' := [(2, .int (iI (v2 + 1))), (1, .int (iI x44)), (0, .ref (ad 1)), (4, .int (iI v4))]) hx hb dX12_doubts_154 hl (k := 2) rfl rfl (by decide) rfl (fun ls hl => ?_)
        refine lv_goto (tgt := 9) hx hb dX12_doubts_157 (by decide) ?_
        exact hR x44 (v2 + 1) M40 _ _ _ hM hv hw (lv_sub hl [2, 1, 0] rfl)
  have L9 : ∀ (X160 : Int → Mem → Prop), (∀ (v1 : Int) (M : Mem) (H : Heap) (locs : List Loc) (ls : Array Slot), MR M → X160 v1 M → wS D A s.heap (WM τ ad M) H locs → lv_has ls 6 [(0, .ref (ad 1)), (1, .int (iI v1))] → W p l e (rmk 3 0 0) s m args below meth c H locs 0 0 (MQ below (gQi D (EQi (WM τ ad) MR Q) A) args s 0 0 A) (F0 m 160 ls [])) → ∀ (n : Nat) (v1 : Int) (v2 : Int) (M : Mem) (H : Heap) (locs : List Loc) (ls : Array Slot), MR M → qX12_doubts_L9  X160 Q n v1 v2 M → wS D A s.heap (WM τ ad M) H locs → lv_has ls 6 [(0, .ref (ad 1)), (1, .int (iI v1)), (2, .int (iI v2))] → W p l e (rmk 3 0 0) s m args below meth c H locs 0 0 (MQ below (gQi D (EQi (WM τ ad) MR Q) A) args s 0 0 A) (F0 m 9 ls []) := by
    intro X160 hX160 n
    induction n with
    | zero => intro v1 v2 M H locs ls hM hv; rw [qX12_doubts_L9] at hv; exact hv.elim
    | succ n ih =>
      intro v1 v2 M H locs ls hM hv hw hl
      rw [qX12_doubts_L9] at hv
      refine lv_iload_n hx hb dX12_doubts_9 rfl (lv_at hl 2 rfl) ?_
      refine lv_aload_n hx hb dX12_doubts_10 rfl (lv_at hl 0 rfl) ?_
      refine gf_X12_129 hx hb hC hw 1 (gM_1 τ ad M) rfl dX12_doubts_11 ?_
      refine r_top (fun x2 e2 => ?_)
      have g2 : iR x2 := by rw [e2]; exact hM.get (by decide) _
      have hv := hv x2 e2 g2
      obtain ⟨c3, hv⟩ := hv
      refine r_icmp_ge (tgt := 160) hx hb dX12_doubts_14 (by decide) c3 g2 (fun b4 => ?_) (fun b4 => ?_)
      · have hv := hv.1 b4
        exact hX160 v1 M _ _ _ hM hv hw (lv_sub hl [0, 1] rfl)
      · have hv := hv.2 b4
        refine lv_aload_n hx hb dX12_doubts_17 rfl (lv_at hl 0 rfl) ?_
        refine lv_aload_n hx hb dX12_doubts_18 rfl (lv_at hl 0 rfl) ?_
        refine gf_X12_31 hx hb hC hw 1 (gM_1 τ ad M) rfl dX12_doubts_19 ?_
        refine lv_aload_n hx hb dX12_doubts_22 rfl (lv_at hl 0 rfl) ?_
        refine gf_X12_31 hx hb hC hw 1 (gM_1 τ ad M) rfl dX12_doubts_23 ?_
        refine r_bipush hx hb dX12_doubts_26 (by decide +kernel) ?_
        refine lv_iload_n hx hb dX12_doubts_28 rfl (lv_at hl 2 rfl) ?_
        refine r_iadd (z := (13 + v2)) hx hb dX12_doubts_29 rfl ?_
        obtain ⟨c5, hv⟩ := hv
        obtain ⟨c6, hv⟩ := hv
        refine r_iald hx hb hC hw 5 (gI_M aM_5 τ ad M) c5 c6 (by decide) dX12_doubts_30 ?_
        refine r_top (fun x7 e7 => ?_)
        have g7 : iR x7 := by rw [e7]; exact hM.get aM_5.pos _
        have hv := hv x7 e7 g7
        refine k_cVi (wq_M τ ad) hx hb hml hC hLS hA hw hl.1 (mX12_nearest l D τ ad sA sV _ 5 x7 aM_5 g7 M hM _ hv) kX12_nearest ml_X12_313 rfl (gM_1 τ ad M) rfl rfl (Nat.le_of_ble_eq_true rfl) (rm_ok (by decide) (by decide)) ⟨Nat.zero_le _, Nat.zero_le _⟩ dX12_doubts_31 (fun x8 M8 H locs g8 hM hv hw => ?_)
        have hv := hv g8
        refine lv_istore_n (lv' := [(3, .int (iI x8)), (0, .ref (ad 1)), (1, .int (iI v1)), (2, .int (iI v2))]) hx hb dX12_doubts_34 rfl hl (by decide) rfl (fun ls hl => ?_)
        refine r_iconst hx hb dX12_doubts_35 ?_
        refine lv_istore (lv' := [(4, .int (iI 0)), (3, .int (iI x8)), (0, .ref (ad 1)), (1, .int (iI v1)), (2, .int (iI v2))]) hx hb dX12_doubts_36 hl (by decide) rfl (fun ls hl => ?_)
        refine r_iconst hx hb dX12_doubts_38 ?_
        refine lv_istore (lv' := [(5, .int (iI 0)), (4, .int (iI 0)), (3, .int (iI x8)), (0, .ref (ad 1)), (1, .int (iI v1)), (2, .int (iI v2))]) hx hb dX12_doubts_39 hl (by decide) rfl (fun ls hl => ?_)
        obtain ⟨n35, hv⟩ := hv
        refine L41 _ ?_ n35 v1 v2 x8 0 0 M8 _ _ _ hM hv hw (lv_sub hl [3, 4, 5, 2, 1, 0] rfl)
        · intro v1 v2 v4 M H locs ls hM hv hw hl
          exact J127 _ ih _ hX160 v1 v2 v4 M _ _ _ hM hv hw (lv_sub hl [0, 1, 2, 3] rfl)
  refine lv_aload_n hx hb dX12_doubts_0 rfl (lv_at hl 0 rfl) ?_
  refine r_iconst hx hb dX12_doubts_1 ?_
  obtain ⟨M1, e1⟩ : ∃ M1 : Mem, M1 = up2 M 1 0 0 := ⟨_, rfl⟩
  have hv := hv M1 e1
  refine pf_X12_112 (ws' := (WM τ ad M1)) hx hb hC hw 1 (gM_1 τ ad M) (Nat.le_of_ble_eq_true rfl) (by rw [e1]; exact sM_1_0 τ ad M _) dX12_doubts_2 (fun H locs hw => ?_)
  have hM : MR M1 := by rw [e1]; exact hM.put (by decide) (by decide)
  refine r_iconst hx hb dX12_doubts_5 ?_
  refine lv_istore_n (lv' := [(1, .int (iI 0)), (0, .ref (ad 1))]) hx hb dX12_doubts_6 rfl hl (by decide) rfl (fun ls hl => ?_)
  refine r_iconst hx hb dX12_doubts_7 ?_
  refine lv_istore_n (lv' := [(2, .int (iI 0)), (1, .int (iI 0)), (0, .ref (ad 1))]) hx hb dX12_doubts_8 rfl hl (by decide) rfl (fun ls hl => ?_)
  obtain ⟨n45, hv⟩ := hv
  refine L9 _ ?_ n45 0 0 M1 _ _ _ hM hv hw (lv_sub hl [2, 1, 0] rfl)
  · intro v1 M H locs ls hM hv hw hl
    refine lv_aload_n hx hb dX12_doubts_160 rfl (lv_at hl 0 rfl) ?_
    refine r_iconst hx hb dX12_doubts_161 ?_
    obtain ⟨M46, e46⟩ : ∃ M46 : Mem, M46 = up2 M 1 1 0 := ⟨_, rfl⟩
    have hv := hv M46 e46
    refine pf_X12_119 (ws' := (WM τ ad M46)) hx hb hC hw 1 (gM_1 τ ad M) (Nat.le_of_ble_eq_true rfl) (by rw [e46]; exact sM_1_1 τ ad M _) dX12_doubts_162 (fun H locs hw => ?_)
    have hM : MR M46 := by rw [e46]; exact hM.put (by decide) (by decide)
    refine lv_aload_n hx hb dX12_doubts_165 rfl (lv_at hl 0 rfl) ?_
    refine lv_iload_n hx hb dX12_doubts_166 rfl (lv_at hl 1 rfl) ?_
    obtain ⟨c47, hv⟩ := hv
    refine k_cSi (wq_M τ ad) hx hb hml hC hLS hA hw hl.1 (mJ6_bitCount_0f7a4M l D τ ad sA sV _ v1 c47 M46 hM _ hv) kJ6_bitCount_0f7a4 ml_X12_279 rfl rfl (Nat.le_of_ble_eq_true rfl) (rm_ok (by decide) (by decide)) ⟨Nat.zero_le _, Nat.zero_le _⟩ dX12_doubts_167 (fun x48 M48 H locs g48 hM hv hw => ?_)
    have hv := hv g48
    refine r_i2l hx hb dX12_doubts_170 g48 ?_
    refine k_cVv (wq_M τ ad) hx hb hml hC hLS hA hw hl.1 (mX12_enters l D τ ad sA sV _ x48 (iR_lR g48) M48 hM _ hv) kX12_enters ml_X12_358 rfl (gM_1 τ ad M48) rfl rfl (Nat.le_of_ble_eq_true rfl) (rm_ok (by decide) (by decide)) ⟨Nat.zero_le _, Nat.zero_le _⟩ dX12_doubts_171 (fun M49 H locs hM hv hw => ?_)
    refine lv_iload_n hx hb dX12_doubts_174 rfl (lv_at hl 1 rfl) ?_
    exact k_iret (wq_M τ ad) hx hb hr hlk hw hM c47 hv dX12_doubts_175
set_option maxHeartbeats 4000000 in
set_option maxRecDepth 100000 in
theorem mX12_heard (l : Launch) (D : va_G) (τ : Nat → ClassId) (ad : Nat → Nat) (sA sV : Nat → Nat) (sz : Nat) (p1 : Int) (p2 : Int) (hp1 : iR p1) (hp2 : iR p2) (M : Mem) (hM : MR M) (Q : Int → Mem → Prop) (hv : qX12_heard p1 p2 M Q) : Met l yX12_heard (lw_w yX12_heard cX12_heard 4 (some .int)) (rmk 2 0 0) (kPc D τ sA sV (WM τ ad M) sz [.ref (ad 1), .int (iI p1), .int (iI p2)]) (gQi D (EQi (WM τ ad) MR Q) (va_A (WM τ ad M) sz)) 0 0 (va_A (WM τ ad M) sz) := by
  refine k_met (ret := (some .int)) (Qc := gQi D (EQi (WM τ ad) MR Q)) (by decide +kernel) (Nat.le_of_ble_eq_true rfl) ?_
  intro p e s m args below meth c A ls hx hb hml hr hlk hnm hC hLS hA hw hl
  have hC : cx D τ s m args RX12 := hC
  have hl : lv_has ls 4 [(0, .ref (ad 1)), (1, .int (iI p1)), (2, .int (iI p2))] := hl
  unfold qX12_heard at hv
  have J51 : ∀ (v3 : Int) (t0 : Int) (t1 : Int) (M : Mem) (H : Heap) (locs : List Loc) (ls : Array Slot), MR M → qX12_heard_J51 p1 p2 Q v3 t0 t1 M → wS D A s.heap (WM τ ad M) H locs → lv_has ls 4 [(0, .ref (ad 1)), (1, .int (iI p1)), (2, .int (iI p2)), (3, .int (iI v3))] → W p l e (rmk 2 0 0) s m args below meth c H locs 0 0 (MQ below (gQi D (EQi (WM τ ad) MR Q) A) args s 0 0 A) (F0 m 51 ls [.int (iI t0), .long (lI t1)]) := by
    intro v3 t0 t1 M H locs ls hM hv hw hl
    unfold qX12_heard_J51 at hv
    obtain ⟨c7, hv⟩ := hv
    refine k_cSi (wq_M τ ad) hx hb hml hC hLS hA hw hl.1 (mX12_flag l D τ ad sA sV _ t0 c7 M hM _ hv) kX12_flag ml_X12_154 rfl rfl (Nat.le_of_ble_eq_true rfl) (rm_ok (by decide) (by decide)) ⟨Nat.zero_le _, Nat.zero_le _⟩ dX12_heard_51 (fun x8 M8 H locs g8 hM hv hw => ?_)
    have hv := hv g8
    refine r_i2l hx hb dX12_heard_54 g8 ?_
    refine lv_iload_n hx hb dX12_heard_55 rfl (lv_at hl 3 rfl) ?_
    obtain ⟨c9, hv⟩ := hv
    refine r_i2l hx hb dX12_heard_56 c9 ?_
    obtain ⟨c10, hv⟩ := hv
    refine k_cSz (wq_M τ ad) hx hb hml hC hLS hA hw hl.1 (mX12_in l D τ ad sA sV _ t1 x8 v3 c10 (iR_lR g8) (iR_lR c9) M8 hM _ hv) kX12_in ml_X12_125 rfl rfl (Nat.le_of_ble_eq_true rfl) (rm_ok (by decide) (by decide)) ⟨Nat.zero_le _, Nat.zero_le _⟩ dX12_heard_57 (fun x11 M11 H locs g11 z11 hM hv hw => ?_)
    have hv := hv g11 z11
    refine r_if_eq (tgt := 72) hx hb dX12_heard_60 (by decide) g11  (fun b12 => ?_) (fun b12 => ?_)
    · have hv := hv.1 b12
      refine r_iconst hx hb dX12_heard_72 ?_
      exact k_iret (wq_M τ ad) hx hb hr hlk hw hM (by decide) hv dX12_heard_73
    · have hv := hv.2 b12
      refine lv_aload_n hx hb dX12_heard_63 rfl (lv_at hl 0 rfl) ?_
      refine gf_X12_423 hx hb hC hw 1 (gM_1 τ ad M11) rfl dX12_heard_64 ?_
      refine r_top (fun x13 e13 => ?_)
      have g13 : iR x13 := by rw [e13]; exact hM.get (by decide) _
      have hv := hv x13 e13 g13
      refine r_bipush hx hb dX12_heard_67 (by decide +kernel) ?_
      refine r_icmp_ne (tgt := 74) hx hb dX12_heard_69 (by decide) g13 (by decide) (fun b14 => ?_) (fun b14 => ?_)
      · have hv := hv.1 b14
        refine lv_aload_n hx hb dX12_heard_74 rfl (lv_at hl 0 rfl) ?_
        refine gf_X12_94 hx hb hC hw 1 (gM_1 τ ad M11) rfl dX12_heard_75 ?_
        refine lv_aload_n hx hb dX12_heard_78 rfl (lv_at hl 0 rfl) ?_
        refine gf_X12_423 hx hb hC hw 1 (gM_1 τ ad M11) rfl dX12_heard_79 ?_
        refine r_top (fun x15 e15 => ?_)
        have g15 : iR x15 := by rw [e15]; exact hM.get (by decide) _
        have hv := hv x15 e15 g15
        refine lv_iload_n hx hb dX12_heard_82 rfl (lv_at hl 1 rfl) ?_
        obtain ⟨c16, hv⟩ := hv
        obtain ⟨c17, hv⟩ := hv
        obtain ⟨M18, e18⟩ : ∃ M18 : Mem, M18 = up2 M11 26 x15 p1 := ⟨_, rfl⟩
        have hv := hv M18 e18
        refine r_iast (ws' := (WM τ ad M18)) hx hb hC hw 26 (gI_M aM_26 τ ad M11) c16 c17 (by decide) (by rw [e18]; exact sI_M aM_26 τ ad M11 _ _) dX12_heard_83 (fun H locs hw => ?_)
        have hM : MR M18 := by rw [e18]; exact hM.put aM_26.pos hp1
        refine lv_aload_n hx hb dX12_heard_84 rfl (lv_at hl 0 rfl) ?_
        refine gf_X12_97 hx hb hC hw 1 (gM_1 τ ad M18) rfl dX12_heard_85 ?_
        refine lv_aload_n hx hb dX12_heard_88 rfl (lv_at hl 0 rfl) ?_
        refine gf_X12_423 hx hb hC hw 1 (gM_1 τ ad M18) rfl dX12_heard_89 ?_
        refine r_top (fun x19 e19 => ?_)
        have g19 : iR x19 := by rw [e19]; exact hM.get (by decide) _
        have hv := hv x19 e19 g19
        refine lv_iload_n hx hb dX12_heard_92 rfl (lv_at hl 2 rfl) ?_
        obtain ⟨c20, hv⟩ := hv
        obtain ⟨c21, hv⟩ := hv
        obtain ⟨M22, e22⟩ : ∃ M22 : Mem, M22 = up2 M18 27 x19 p2 := ⟨_, rfl⟩
        have hv := hv M22 e22
        refine r_iast (ws' := (WM τ ad M22)) hx hb hC hw 27 (gI_M aM_27 τ ad M18) c20 c21 (by decide) (by rw [e22]; exact sI_M aM_27 τ ad M18 _ _) dX12_heard_93 (fun H locs hw => ?_)
        have hM : MR M22 := by rw [e22]; exact hM.put aM_27.pos hp2
        refine lv_aload_n hx hb dX12_heard_94 rfl (lv_at hl 0 rfl) ?_
        refine lv_dup hx hb dX12_heard_95 rfl ?_
        refine gf_X12_423 hx hb hC hw 1 (gM_1 τ ad M22) rfl dX12_heard_96 ?_
        refine r_top (fun x23 e23 => ?_)
        have g23 : iR x23 := by rw [e23]; exact hM.get (by decide) _
        have hv := hv x23 e23 g23
        refine r_iconst hx hb dX12_heard_99 ?_
        refine r_iadd (z := (x23 + 1)) hx hb dX12_heard_100 rfl ?_
        obtain ⟨c24, hv⟩ := hv
        obtain ⟨M25, e25⟩ : ∃ M25 : Mem, M25 = up2 M22 1 45 (x23 + 1) := ⟨_, rfl⟩
        have hv := hv M25 e25
        refine pf_X12_423 (ws' := (WM τ ad M25)) hx hb hC hw 1 (gM_1 τ ad M22) (Nat.le_of_ble_eq_true rfl) (by rw [e25]; exact sM_1_45 τ ad M22 _) dX12_heard_101 (fun H locs hw => ?_)
        have hM : MR M25 := by rw [e25]; exact hM.put (by decide) c24
        refine lv_aload_n hx hb dX12_heard_104 rfl (lv_at hl 0 rfl) ?_
        refine gf_X12_423 hx hb hC hw 1 (gM_1 τ ad M25) rfl dX12_heard_105 ?_
        refine r_top (fun x26 e26 => ?_)
        have g26 : iR x26 := by rw [e26]; exact hM.get (by decide) _
        have hv := hv x26 e26 g26
        exact k_iret (wq_M τ ad) hx hb hr hlk hw hM g26 hv dX12_heard_108
      · have hv := hv.2 b14
        refine r_iconst hx hb dX12_heard_72 ?_
        exact k_iret (wq_M τ ad) hx hb hr hlk hw hM (by decide) hv dX12_heard_73
  have J26 : ∀ (t0 : Int) (M : Mem) (H : Heap) (locs : List Loc) (ls : Array Slot), MR M → qX12_heard_J26 p1 p2 Q t0 M → wS D A s.heap (WM τ ad M) H locs → lv_has ls 4 [(0, .ref (ad 1)), (1, .int (iI p1)), (2, .int (iI p2))] → W p l e (rmk 2 0 0) s m args below meth c H locs 0 0 (MQ below (gQi D (EQi (WM τ ad) MR Q) A) args s 0 0 A) (F0 m 26 ls [.int (iI t0)]) := by
    intro t0 M H locs ls hM hv hw hl
    unfold qX12_heard_J26 at hv
    refine lv_istore_n (lv' := [(3, .int (iI t0)), (0, .ref (ad 1)), (1, .int (iI p1)), (2, .int (iI p2))]) hx hb dX12_heard_26 rfl hl (by decide) rfl (fun ls hl => ?_)
    refine lv_iload_n hx hb dX12_heard_27 rfl (lv_at hl 2 rfl) ?_
    refine r_i2l hx hb dX12_heard_28 hp1 ?_
    refine r_lconst (z := 0) hx hb dX12_heard_29 (by decide +kernel) ?_
    refine r_ldc2 (z := 3) hx hb hC ct_X12_316 (by decide +kernel) dX12_heard_30 ?_
    refine k_cSz (wq_M τ ad) hx hb hml hC hLS hA hw hl.1 (mX12_in l D τ ad sA sV _ p1 0 3 (iR_lR hp1) (by decide) (by decide) M hM _ hv) kX12_in ml_X12_125 rfl rfl (Nat.le_of_ble_eq_true rfl) (rm_ok (by decide) (by decide)) ⟨Nat.zero_le _, Nat.zero_le _⟩ dX12_heard_33 (fun x4 M4 H locs g4 z4 hM hv hw => ?_)
    have hv := hv g4 z4
    refine r_if_eq (tgt := 72) hx hb dX12_heard_36 (by decide) g4  (fun b5 => ?_) (fun b5 => ?_)
    · have hv := hv.1 b5
      refine r_iconst hx hb dX12_heard_72 ?_
      exact k_iret (wq_M τ ad) hx hb hr hlk hw hM (by decide) hv dX12_heard_73
    · have hv := hv.2 b5
      refine lv_iload_n hx hb dX12_heard_39 rfl (lv_at hl 3 rfl) ?_
      refine r_i2l hx hb dX12_heard_40 hp2 ?_
      refine lv_iload_n hx hb dX12_heard_41 rfl (lv_at hl 2 rfl) ?_
      refine r_iconst hx hb dX12_heard_42 ?_
      refine r_icmp_ne (tgt := 50) hx hb dX12_heard_43 (by decide) hp1 (by decide) (fun b6 => ?_) (fun b6 => ?_)
      · have hv := hv.1 b6
        refine r_iconst hx hb dX12_heard_50 ?_
        exact J51 t0 0 p2 M4 _ _ _ hM hv hw (lv_sub hl [1, 2, 3, 0] rfl)
      · have hv := hv.2 b6
        refine r_iconst hx hb dX12_heard_46 ?_
        refine lv_goto (tgt := 51) hx hb dX12_heard_47 (by decide) ?_
        exact J51 t0 1 p2 M4 _ _ _ hM hv hw (lv_sub hl [1, 2, 3, 0] rfl)
  refine lv_aload_n hx hb dX12_heard_0 rfl (lv_at hl 0 rfl) ?_
  refine r_iconst hx hb dX12_heard_1 ?_
  obtain ⟨M1, e1⟩ : ∃ M1 : Mem, M1 = up2 M 1 0 0 := ⟨_, rfl⟩
  have hv := hv M1 e1
  refine pf_X12_112 (ws' := (WM τ ad M1)) hx hb hC hw 1 (gM_1 τ ad M) (Nat.le_of_ble_eq_true rfl) (by rw [e1]; exact sM_1_0 τ ad M _) dX12_heard_2 (fun H locs hw => ?_)
  have hM : MR M1 := by rw [e1]; exact hM.put (by decide) (by decide)
  refine lv_iload_n hx hb dX12_heard_5 rfl (lv_at hl 1 rfl) ?_
  refine r_iconst hx hb dX12_heard_6 ?_
  refine r_icmp_ne (tgt := 15) hx hb dX12_heard_7 (by decide) hp1 (by decide) (fun b2 => ?_) (fun b2 => ?_)
  · have hv := hv.1 b2
    refine lv_iload_n hx hb dX12_heard_15 rfl (lv_at hl 1 rfl) ?_
    refine r_iconst hx hb dX12_heard_16 ?_
    refine r_icmp_ne (tgt := 24) hx hb dX12_heard_17 (by decide) hp1 (by decide) (fun b3 => ?_) (fun b3 => ?_)
    · have hv := hv.1 b3
      refine r_bipush hx hb dX12_heard_24 (by decide +kernel) ?_
      exact J26 8 M1 _ _ _ hM hv hw (lv_sub hl [0, 1, 2] rfl)
    · have hv := hv.2 b3
      refine r_iconst hx hb dX12_heard_20 ?_
      refine lv_goto (tgt := 26) hx hb dX12_heard_21 (by decide) ?_
      exact J26 1 M1 _ _ _ hM hv hw (lv_sub hl [0, 1, 2] rfl)
  · have hv := hv.2 b2
    refine r_bipush hx hb dX12_heard_10 (by decide +kernel) ?_
    refine lv_goto (tgt := 26) hx hb dX12_heard_12 (by decide) ?_
    exact J26 6 M1 _ _ _ hM hv hw (lv_sub hl [0, 1, 2] rfl)
set_option maxHeartbeats 4000000 in
set_option maxRecDepth 100000 in
theorem mX12_forget (l : Launch) (D : va_G) (τ : Nat → ClassId) (ad : Nat → Nat) (sA sV : Nat → Nat) (sz : Nat)   (M : Mem) (hM : MR M) (Q : Int → Mem → Prop) (hv : qX12_forget  M Q) : Met l yX12_forget (lw_w yX12_forget cX12_forget 2 (some .int)) (rmk 1 0 0) (kPc D τ sA sV (WM τ ad M) sz [.ref (ad 1)]) (gQi D (EQi (WM τ ad) MR Q) (va_A (WM τ ad M) sz)) 0 0 (va_A (WM τ ad M) sz) := by
  refine k_met (ret := (some .int)) (Qc := gQi D (EQi (WM τ ad) MR Q)) (by decide +kernel) (Nat.le_of_ble_eq_true rfl) ?_
  intro p e s m args below meth c A ls hx hb hml hr hlk hnm hC hLS hA hw hl
  have hC : cx D τ s m args RX12 := hC
  have hl : lv_has ls 2 [(0, .ref (ad 1))] := hl
  unfold qX12_forget at hv
  refine lv_aload_n hx hb dX12_forget_0 rfl (lv_at hl 0 rfl) ?_
  refine r_iconst hx hb dX12_forget_1 ?_
  obtain ⟨M1, e1⟩ : ∃ M1 : Mem, M1 = up2 M 1 0 0 := ⟨_, rfl⟩
  have hv := hv M1 e1
  refine pf_X12_112 (ws' := (WM τ ad M1)) hx hb hC hw 1 (gM_1 τ ad M) (Nat.le_of_ble_eq_true rfl) (by rw [e1]; exact sM_1_0 τ ad M _) dX12_forget_2 (fun H locs hw => ?_)
  have hM : MR M1 := by rw [e1]; exact hM.put (by decide) (by decide)
  refine lv_aload_n hx hb dX12_forget_5 rfl (lv_at hl 0 rfl) ?_
  refine gf_X12_423 hx hb hC hw 1 (gM_1 τ ad M1) rfl dX12_forget_6 ?_
  refine r_top (fun x2 e2 => ?_)
  have g2 : iR x2 := by rw [e2]; exact hM.get (by decide) _
  have hv := hv x2 e2 g2
  refine lv_istore_n (lv' := [(1, .int (iI x2)), (0, .ref (ad 1))]) hx hb dX12_forget_9 rfl hl (by decide) rfl (fun ls hl => ?_)
  refine lv_aload_n hx hb dX12_forget_10 rfl (lv_at hl 1 rfl) ?_
  refine r_iconst hx hb dX12_forget_11 ?_
  obtain ⟨M3, e3⟩ : ∃ M3 : Mem, M3 = up2 M1 1 45 0 := ⟨_, rfl⟩
  have hv := hv M3 e3
  refine pf_X12_423 (ws' := (WM τ ad M3)) hx hb hC hw 1 (gM_1 τ ad M1) (Nat.le_of_ble_eq_true rfl) (by rw [e3]; exact sM_1_45 τ ad M1 _) dX12_forget_12 (fun H locs hw => ?_)
  have hM : MR M3 := by rw [e3]; exact hM.put (by decide) (by decide)
  refine lv_iload_n hx hb dX12_forget_15 rfl (lv_at hl 0 rfl) ?_
  exact k_iret (wq_M τ ad) hx hb hr hlk hw hM g2 hv dX12_forget_16
