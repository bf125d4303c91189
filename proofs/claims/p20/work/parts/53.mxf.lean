set_option maxHeartbeats 4000000 in
set_option maxRecDepth 100000 in
theorem mX11_count (l : Launch) (D : va_G) (τ : Nat → ClassId) (ad : Nat → Nat) (sA sV : Nat → Nat) (sz : Nat) (p1 : Int) (hp1 : iR p1) (M : Mem) (hM : MR M) (Q : Int → Mem → Prop) (hv : qX11_count p1 M Q) : Met l yX11_count (lw_w yX11_count cX11_count 2 (some .int)) (rmk 3 0 0) (kPc D τ sA sV (WX τ ad M) sz [.ref (ad 155), .int (iI p1)]) (gQi D (EQi (WX τ ad) MR Q) (va_A (WX τ ad M) sz)) 0 0 (va_A (WX τ ad M) sz) := by
  refine k_met (ret := (some .int)) (Qc := gQi D (EQi (WX τ ad) MR Q)) (by decide +kernel) (Nat.le_of_ble_eq_true rfl) ?_
  intro p e s m args below meth c A ls hx hb hml hr hlk hnm hC hLS hA hw hl
  have hC : cx D τ s m args RX11 := hC
  have hl : lv_has ls 2 [(0, .ref (ad 155)), (1, .int (iI p1))] := hl
  unfold qX11_count at hv
  refine lv_iload_n hx hb dX11_count_0 rfl (lv_at hl 1 rfl) ?_
  rcases (show p1 = 0 ∨ p1 = 1 ∨ p1 = 2 ∨ p1 = 3 ∨ p1 = 4 ∨ p1 = 5 ∨ p1 = 6 ∨ p1 = 7 ∨ p1 = 8 ∨ p1 = 9 ∨ p1 = 10 ∨ p1 = 11 ∨ p1 = 12 ∨ (p1 < 0 ∨ 12 < p1) by omega) with b1 | b1 | b1 | b1 | b1 | b1 | b1 | b1 | b1 | b1 | b1 | b1 | b1 | b1
  · refine r_tblI (tgt := 68) hx hb dX11_count_1 hp1 (by omega) (by omega) (by rw [b1]; first | done | rfl) (by decide) ?_
    have hv := hv.1 b1
    refine lv_aload_n hx hb dX11_count_68 rfl (lv_at hl 0 rfl) ?_
    refine gf_X11_19 hx hb hC hw 155 (gX_155 τ ad M) rfl dX11_count_69 ?_
    refine gf_X11_350 hx hb hC hw 158 (gX_158 τ ad M) rfl dX11_count_72 ?_
    refine r_top (fun x2 e2 => ?_)
    have g2 : iR x2 := by rw [e2]; exact hM.get (by decide) _
    have hv := hv x2 e2 g2
    exact k_iret (wq_X τ ad) hx hb hr hlk hw hM g2 hv dX11_count_75
  · refine r_tblI (tgt := 76) hx hb dX11_count_1 hp1 (by omega) (by omega) (by rw [b1]; first | done | rfl) (by decide) ?_
    have hv := hv.2.1 b1
    refine lv_aload_n hx hb dX11_count_76 rfl (lv_at hl 0 rfl) ?_
    refine gf_X11_26 hx hb hC hw 155 (gX_155 τ ad M) rfl dX11_count_77 ?_
    refine gf_X11_176 hx hb hC hw 1 (gS_X (by decide) τ ad M) rfl dX11_count_80 ?_
    refine r_top (fun x3 e3 => ?_)
    have g3 : iR x3 := by rw [e3]; exact hM.get (by decide) _
    have hv := hv x3 e3 g3
    exact k_iret (wq_X τ ad) hx hb hr hlk hw hM g3 hv dX11_count_83
  · refine r_tblI (tgt := 84) hx hb dX11_count_1 hp1 (by omega) (by omega) (by rw [b1]; first | done | rfl) (by decide) ?_
    have hv := hv.2.2.1 b1
    refine lv_aload_n hx hb dX11_count_84 rfl (lv_at hl 0 rfl) ?_
    refine gf_X11_26 hx hb hC hw 155 (gX_155 τ ad M) rfl dX11_count_85 ?_
    refine gf_X11_191 hx hb hC hw 1 (gS_X (by decide) τ ad M) rfl dX11_count_88 ?_
    refine r_top (fun x4 e4 => ?_)
    have g4 : iR x4 := by rw [e4]; exact hM.get (by decide) _
    have hv := hv x4 e4 g4
    exact k_iret (wq_X τ ad) hx hb hr hlk hw hM g4 hv dX11_count_91
  · refine r_tblI (tgt := 92) hx hb dX11_count_1 hp1 (by omega) (by omega) (by rw [b1]; first | done | rfl) (by decide) ?_
    have hv := hv.2.2.2.1 b1
    refine lv_aload_n hx hb dX11_count_92 rfl (lv_at hl 0 rfl) ?_
    refine gf_X11_26 hx hb hC hw 155 (gX_155 τ ad M) rfl dX11_count_93 ?_
    refine gf_X11_333 hx hb hC hw 1 (gS_X (by decide) τ ad M) rfl dX11_count_96 ?_
    refine r_top (fun x5 e5 => ?_)
    have g5 : iR x5 := by rw [e5]; exact hM.get (by decide) _
    have hv := hv x5 e5 g5
    exact k_iret (wq_X τ ad) hx hb hr hlk hw hM g5 hv dX11_count_99
  · refine r_tblI (tgt := 100) hx hb dX11_count_1 hp1 (by omega) (by omega) (by rw [b1]; first | done | rfl) (by decide) ?_
    have hv := hv.2.2.2.2.1 b1
    refine lv_aload_n hx hb dX11_count_100 rfl (lv_at hl 0 rfl) ?_
    refine gf_X11_26 hx hb hC hw 155 (gX_155 τ ad M) rfl dX11_count_101 ?_
    refine gf_X11_302 hx hb hC hw 1 (gS_X (by decide) τ ad M) rfl dX11_count_104 ?_
    refine r_top (fun x6 e6 => ?_)
    have g6 : iR x6 := by rw [e6]; exact hM.get (by decide) _
    have hv := hv x6 e6 g6
    exact k_iret (wq_X τ ad) hx hb hr hlk hw hM g6 hv dX11_count_107
  · refine r_tblI (tgt := 108) hx hb dX11_count_1 hp1 (by omega) (by omega) (by rw [b1]; first | done | rfl) (by decide) ?_
    have hv := hv.2.2.2.2.2.1 b1
    refine lv_aload_n hx hb dX11_count_108 rfl (lv_at hl 0 rfl) ?_
    refine gf_X11_26 hx hb hC hw 155 (gX_155 τ ad M) rfl dX11_count_109 ?_
    refine gf_X11_482 hx hb hC hw 1 (gS_X (by decide) τ ad M) rfl dX11_count_112 ?_
    refine r_top (fun x7 e7 => ?_)
    have g7 : iR x7 := by rw [e7]; exact hM.get (by decide) _
    have hv := hv x7 e7 g7
    exact k_iret (wq_X τ ad) hx hb hr hlk hw hM g7 hv dX11_count_115
  · refine r_tblI (tgt := 116) hx hb dX11_count_1 hp1 (by omega) (by omega) (by rw [b1]; first | done | rfl) (by decide) ?_
    have hv := hv.2.2.2.2.2.2.1 b1
    refine lv_aload_n hx hb dX11_count_116 rfl (lv_at hl 0 rfl) ?_
    refine gf_X11_26 hx hb hC hw 155 (gX_155 τ ad M) rfl dX11_count_117 ?_
    refine k_cVi (wq_X τ ad) hx hb hml hC hLS hA hw hl.1 (mX6_rightBits l D τ ad sA sV _ 1 (by decide) M hM _ hv) kX6_rightBits ml_X11_397 rfl (gS_X (by decide) τ ad M) rfl rfl (Nat.le_of_ble_eq_true rfl) (rm_ok (by decide) (by decide)) ⟨Nat.zero_le _, Nat.zero_le _⟩ dX11_count_120 (fun x8 M8 H locs g8 hM hv hw => ?_)
    have hv := hv g8
    refine k_cSi (wq_X τ ad) hx hb hml hC hLS hA hw hl.1 (mJ6_bitCount_0f7a4X l D τ ad sA sV _ x8 g8 M8 hM _ hv) kJ6_bitCount_0f7a4 ml_X11_389 rfl rfl (Nat.le_of_ble_eq_true rfl) (rm_ok (by decide) (by decide)) ⟨Nat.zero_le _, Nat.zero_le _⟩ dX11_count_123 (fun x9 M9 H locs g9 hM hv hw => ?_)
    have hv := hv g9
    exact k_iret (wq_X τ ad) hx hb hr hlk hw hM g9 hv dX11_count_126
  · refine r_tblI (tgt := 127) hx hb dX11_count_1 hp1 (by omega) (by omega) (by rw [b1]; first | done | rfl) (by decide) ?_
    have hv := hv.2.2.2.2.2.2.2.1 b1
    refine lv_aload_n hx hb dX11_count_127 rfl (lv_at hl 0 rfl) ?_
    refine gf_X11_19 hx hb hC hw 155 (gX_155 τ ad M) rfl dX11_count_128 ?_
    refine gf_X11_486 hx hb hC hw 158 (gX_158 τ ad M) rfl dX11_count_131 ?_
    refine r_top (fun x10 e10 => ?_)
    have g10 : iR x10 := by rw [e10]; exact hM.get (by decide) _
    have hv := hv x10 e10 g10
    refine k_cSi (wq_X τ ad) hx hb hml hC hLS hA hw hl.1 (mJ6_bitCount_0f7a4X l D τ ad sA sV _ x10 g10 M hM _ hv) kJ6_bitCount_0f7a4 ml_X11_389 rfl rfl (Nat.le_of_ble_eq_true rfl) (rm_ok (by decide) (by decide)) ⟨Nat.zero_le _, Nat.zero_le _⟩ dX11_count_134 (fun x11 M11 H locs g11 hM hv hw => ?_)
    have hv := hv g11
    exact k_iret (wq_X τ ad) hx hb hr hlk hw hM g11 hv dX11_count_137
  · refine r_tblI (tgt := 138) hx hb dX11_count_1 hp1 (by omega) (by omega) (by rw [b1]; first | done | rfl) (by decide) ?_
    have hv := hv.2.2.2.2.2.2.2.2.1 b1
    refine lv_aload_n hx hb dX11_count_138 rfl (lv_at hl 0 rfl) ?_
    refine gf_X11_19 hx hb hC hw 155 (gX_155 τ ad M) rfl dX11_count_139 ?_
    refine lv_aload_n hx hb dX11_count_142 rfl (lv_at hl 0 rfl) ?_
    refine gf_X11_26 hx hb hC hw 155 (gX_155 τ ad M) rfl dX11_count_143 ?_
    refine gf_X11_333 hx hb hC hw 1 (gS_X (by decide) τ ad M) rfl dX11_count_146 ?_
    refine r_top (fun x12 e12 => ?_)
    have g12 : iR x12 := by rw [e12]; exact hM.get (by decide) _
    have hv := hv x12 e12 g12
    refine k_cVi (wq_X τ ad) hx hb hml hC hLS hA hw hl.1 (mX8_weatherAt l D τ ad sA sV _ x12 g12 M hM _ hv) kX8_weatherAt ml_X11_489 rfl (gX_158 τ ad M) rfl rfl (Nat.le_of_ble_eq_true rfl) (rm_ok (by decide) (by decide)) ⟨Nat.zero_le _, Nat.zero_le _⟩ dX11_count_149 (fun x13 M13 H locs g13 hM hv hw => ?_)
    have hv := hv g13
    exact k_iret (wq_X τ ad) hx hb hr hlk hw hM g13 hv dX11_count_152
  · refine r_tblI (tgt := 153) hx hb dX11_count_1 hp1 (by omega) (by omega) (by rw [b1]; first | done | rfl) (by decide) ?_
    have hv := hv.2.2.2.2.2.2.2.2.2.1 b1
    refine lv_aload_n hx hb dX11_count_153 rfl (lv_at hl 0 rfl) ?_
    refine gf_X11_87 hx hb hC hw 155 (gX_155 τ ad M) rfl dX11_count_154 ?_
    refine gf_X11_456 hx hb hC hw 182 (gX_182 τ ad M) rfl dX11_count_157 ?_
    refine r_top (fun x14 e14 => ?_)
    have g14 : iR x14 := by rw [e14]; exact hM.get (by decide) _
    have hv := hv x14 e14 g14
    exact k_iret (wq_X τ ad) hx hb hr hlk hw hM g14 hv dX11_count_160
  · refine r_tblI (tgt := 161) hx hb dX11_count_1 hp1 (by omega) (by omega) (by rw [b1]; first | done | rfl) (by decide) ?_
    have hv := hv.2.2.2.2.2.2.2.2.2.2.1 b1
    refine lv_aload_n hx hb dX11_count_161 rfl (lv_at hl 0 rfl) ?_
    refine gf_X11_51 hx hb hC hw 155 (gX_155 τ ad M) rfl dX11_count_162 ?_
    refine gf_X11_346 hx hb hC hw 163 (gX_163 τ ad M) rfl dX11_count_165 ?_
    refine r_top (fun x15 e15 => ?_)
    have g15 : iR x15 := by rw [e15]; exact hM.get (by decide) _
    have hv := hv x15 e15 g15
    exact k_iret (wq_X τ ad) hx hb hr hlk hw hM g15 hv dX11_count_168
  · refine r_tblI (tgt := 169) hx hb dX11_count_1 hp1 (by omega) (by omega) (by rw [b1]; first | done | rfl) (by decide) ?_
    have hv := hv.2.2.2.2.2.2.2.2.2.2.2.1 b1
    refine lv_aload_n hx hb dX11_count_169 rfl (lv_at hl 0 rfl) ?_
    refine gf_X11_66 hx hb hC hw 155 (gX_155 τ ad M) rfl dX11_count_170 ?_
    refine gf_X11_359 hx hb hC hw 167 (gX_167 τ ad M) rfl dX11_count_173 ?_
    refine r_top (fun x16 e16 => ?_)
    have g16 : iR x16 := by rw [e16]; exact hM.get (by decide) _
    have hv := hv x16 e16 g16
    exact k_iret (wq_X τ ad) hx hb hr hlk hw hM g16 hv dX11_count_176
  · refine r_tblI (tgt := 177) hx hb dX11_count_1 hp1 (by omega) (by omega) (by rw [b1]; first | done | rfl) (by decide) ?_
    have hv := hv.2.2.2.2.2.2.2.2.2.2.2.2.1 b1
    refine lv_aload_n hx hb dX11_count_177 rfl (lv_at hl 0 rfl) ?_
    refine gf_X11_10 hx hb hC hw 155 (gX_155 τ ad M) rfl dX11_count_178 ?_
    refine gf_X11_119 hx hb hC hw 156 (gX_156 τ ad M) rfl dX11_count_181 ?_
    refine r_top (fun x17 e17 => ?_)
    have g17 : iR x17 := by rw [e17]; exact hM.get (by decide) _
    have hv := hv x17 e17 g17
    exact k_iret (wq_X τ ad) hx hb hr hlk hw hM g17 hv dX11_count_184
  · refine r_tblO (tgt := 185) hx hb dX11_count_1 hp1 b1 (by decide) ?_
    have hv := hv.2.2.2.2.2.2.2.2.2.2.2.2.2 b1
    refine r_bipush hx hb dX11_count_185 (by decide +kernel) ?_
    exact k_iret (wq_X τ ad) hx hb hr hlk hw hM (by decide) hv dX11_count_187
set_option maxHeartbeats 4000000 in
set_option maxRecDepth 100000 in
theorem mX11_paceNow (l : Launch) (D : va_G) (τ : Nat → ClassId) (ad : Nat → Nat) (sA sV : Nat → Nat) (sz : Nat) (p1 : Int) (hp1 : iR p1) (M : Mem) (hM : MR M) (Q : Int → Mem → Prop) (hv : qX11_paceNow p1 M Q) : Met l yX11_paceNow (lw_w yX11_paceNow cX11_paceNow 2 (some .int)) (rmk 3 0 0) (kPc D τ sA sV (WX τ ad M) sz [.ref (ad 155), .int (iI p1)]) (gQi D (EQi (WX τ ad) MR Q) (va_A (WX τ ad M) sz)) 0 0 (va_A (WX τ ad M) sz) := by
  refine k_met (ret := (some .int)) (Qc := gQi D (EQi (WX τ ad) MR Q)) (by decide +kernel) (Nat.le_of_ble_eq_true rfl) ?_
  intro p e s m args below meth c A ls hx hb hml hr hlk hnm hC hLS hA hw hl
  have hC : cx D τ s m args RX11 := hC
  have hl : lv_has ls 2 [(0, .ref (ad 155)), (1, .int (iI p1))] := hl
  unfold qX11_paceNow at hv
  refine lv_aload_n hx hb dX11_paceNow_0 rfl (lv_at hl 0 rfl) ?_
  refine gf_X11_26 hx hb hC hw 155 (gX_155 τ ad M) rfl dX11_paceNow_1 ?_
  refine lv_iload_n hx hb dX11_paceNow_4 rfl (lv_at hl 1 rfl) ?_
  refine k_cVz (wq_X τ ad) hx hb hml hC hLS hA hw hl.1 (mX6_hasArrived l D τ ad sA sV _ 1 p1 (by decide) hp1 M hM _ hv) kX6_hasArrived ml_X11_255 rfl (gS_X (by decide) τ ad M) rfl rfl (Nat.le_of_ble_eq_true rfl) (rm_ok (by decide) (by decide)) ⟨Nat.zero_le _, Nat.zero_le _⟩ dX11_paceNow_5 (fun x1 M1 H locs g1 z1 hM hv hw => ?_)
  have hv := hv g1 z1
  refine r_if_eq (tgt := 13) hx hb dX11_paceNow_8 (by decide) g1  (fun b2 => ?_) (fun b2 => ?_)
  · have hv := hv.1 b2
    refine lv_aload_n hx hb dX11_paceNow_13 rfl (lv_at hl 0 rfl) ?_
    refine gf_X11_105 hx hb hC hw 155 (gX_155 τ ad M1) rfl dX11_paceNow_14 ?_
    obtain ⟨c3, hv⟩ := hv
    refine lv_aload_n hx hb dX11_paceNow_17 rfl (lv_at hl 0 rfl) ?_
    refine gf_X11_26 hx hb hC hw 155 (gX_155 τ ad M1) rfl dX11_paceNow_18 ?_
    refine lv_aload_n hx hb dX11_paceNow_21 rfl (lv_at hl 0 rfl) ?_
    refine gf_X11_19 hx hb hC hw 155 (gX_155 τ ad M1) rfl dX11_paceNow_22 ?_
    refine lv_iload_n hx hb dX11_paceNow_25 rfl (lv_at hl 1 rfl) ?_
    refine k_cVv (wq_X τ ad) hx hb hml hC hLS hA hw hl.1 (mX2_observe l D τ ad sA sV _ (M1 155 16).toNat 1 p1 c3 (by decide) hp1 M1 hM _ hv) kX2_observe ml_X11_258 rfl (gL_X c3 τ ad M1) rfl rfl (Nat.le_of_ble_eq_true rfl) (rm_ok (by decide) (by decide)) ⟨Nat.zero_le _, Nat.zero_le _⟩ dX11_paceNow_26 (fun M4 H locs hM hv hw => ?_)
    refine lv_aload_n hx hb dX11_paceNow_29 rfl (lv_at hl 0 rfl) ?_
    refine gf_X11_105 hx hb hC hw 155 (gX_155 τ ad M4) rfl dX11_paceNow_30 ?_
    obtain ⟨c5, hv⟩ := hv
    refine k_cVi (wq_X τ ad) hx hb hml hC hLS hA hw hl.1 (mX2_pace l D τ ad sA sV _ (M4 155 16).toNat c5 M4 hM _ hv) kX2_pace ml_X11_262 rfl (gL_X c5 τ ad M4) rfl rfl (Nat.le_of_ble_eq_true rfl) (rm_ok (by decide) (by decide)) ⟨Nat.zero_le _, Nat.zero_le _⟩ dX11_paceNow_33 (fun x6 M6 H locs g6 hM hv hw => ?_)
    have hv := hv g6
    exact k_iret (wq_X τ ad) hx hb hr hlk hw hM g6 hv dX11_paceNow_36
  · have hv := hv.2 b2
    refine r_iconst hx hb dX11_paceNow_11 ?_
    exact k_iret (wq_X τ ad) hx hb hr hlk hw hM (by decide) hv dX11_paceNow_12
