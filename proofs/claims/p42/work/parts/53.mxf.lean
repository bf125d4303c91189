section
set_option maxHeartbeats 4000000 in
set_option maxRecDepth 100000 in
theorem mX11_count (l : Launch) (D : va_G) (τ : Nat → ClassId) (ad : Nat → Nat) (sA sV : Nat → Nat) (sz : Nat) (p1 : Int) (hp1 : iR p1) (M : Mem) (hM : MR M) (Q : Int → Mem → Prop) (hv : qX11_count p1 M Q) : Met l yX11_count (lw_w yX11_count cX11_count 2 (some .int)) (rmk 3 0 0) (kPc D τ sA sV (WX τ ad M) sz [.ref (ad 155), .int (iI p1)]) (gQi D (EQi (WX τ ad) MR Q) (va_A (WX τ ad M) sz)) 0 0 (va_A (WX τ ad M) sz) := by
  refine k_met (ret := (some .int)) (Qc := gQi D (EQi (WX τ ad) MR Q)) (by decide +kernel) (Nat.le_of_ble_eq_true rfl) ?_
  intro p e s m args below meth c A ls hx hb hml hr hlk hnm hC hLS hA hw hl
  have hC : cx D τ s m args RX11 := hC
  have hl : lv_has ls 2 [(0, .ref (ad 155)), (1, .int (iI p1))] := hl
  unfold qX11_count at hv
  refine lv_iload_n hx hb dX11_count_0 rfl (lv_at hl 1 rfl) ?_
  rcases (show p1 = 0 ∨ p1 = 1 ∨ p1 = 2 ∨ p1 = 3 ∨ p1 = 4 ∨ p1 = 5 ∨ p1 = 6 ∨ p1 = 7 ∨ p1 = 8 ∨ p1 = 9 ∨ p1 = 10 ∨ p1 = 11 ∨ p1 = 12 ∨ (p1 < 0 ∨ 12 < p1) by omega) with b1 | b1 | b1 | b1 | b1 | b1 | b1 | b1 | b1 | b1 | b1 | b1 | b1 | b1
  · refine r_tblI (tgt := 68) hx hb dX11_count_1 hp1 (by omega) (by omega) (by rw [b1]; first | done | rfl) (by decide) ?_
    have hv := hv.1 b1
    refine lv_aload_n hx hb dX11_count_68 rfl (lv_at hl 0 rfl) ?_
    refine gf_X11_19 hx hb hC hw 155 (gX_155 τ ad M) rfl dX11_count_69 ?_
    refine gf_X11_350 hx hb hC hw 158 (gX_158 τ ad M) rfl dX11_count_72 ?_
    refine r_top (fun x2 e2 => ?_)
    have g2 : iR x2 := by rw [e2]; exact hM.get (by decide) _
    have hv := hv x2 e2 g2
    exact k_iret (wq_X τ ad) hx hb hr hlk hw hM g2 hv dX11_count_75
  · refine r_tblI (tgt := 76) hx hb dX11_count_1 hp1 (by omega) (by omega) (by rw [b1]; first | done | rfl) (by decide) ?_
    have hv := hv.2.1 b1
    refine lv_aload_n hx hb dX11_count_76 rfl (lv_at hl 0 rfl) ?_
    refine gf_X11_26 hx hb hC hw 155 (gX_155 τ ad M) rfl dX11_count_77 ?_
    refine gf_X11_176 hx hb hC hw 1 (gS_X (by decide) τ ad M) rfl dX11_count_80 ?_
    refine r_top (fun x3 e3 => ?_)
    have g3 : iR x3 := by rw [e3]; exact hM.get (by decide) _
    have hv := hv x3 e3 g3
    exact k_iret (wq_X τ ad) hx hb hr hlk hw hM g3 hv dX11_count_83
  · refine r_tblI (tgt := 84) hx hb dX11_count_1 hp1 (by omega) (by omega) (by rw [b1]; first | done | rfl) (by decide) ?_
    have hv := hv.2.2.1 b1
    refine lv_aload_n hx hb dX11_count_84 rfl (lv_at hl 0 rfl) ?_
    refine gf_X11_26 hx hb hC hw 155 (gX_155 τ ad M) rfl dX11_count_85 ?_
    refine gf_X11_191 hx hb hC hw 1 (gS_X (by decide) τ ad M) rfl dX11_count_88 ?_
    refine r_top (fun x4 e4 => ?_)
    have g4 : iR x4 := by rw [e4]; exact hM.get (by decide) _
    have hv := hv x4 e4 g4
    exact k_iret (wq_X τ ad) hx hb hr hlk hw hM g4 hv dX11_count_91
  · refine r_tblI (tgt := 92) hx hb dX11_count_1 hp1 (by omega) (by omega) (by rw [b1]; first | done | rfl) (by decide) ?_
    have hv := hv.2.2.2.1 b1
    refine lv_aload_n hx hb dX11_count_92 rfl (lv_at hl 0 rfl) ?_
    refine gf_X11_26 hx hb hC hw 155 (gX_155 τ ad M) rfl dX11_count_93 ?_
    refine gf_X11_333 hx hb hC hw 1 (gS_X (by decide) τ ad M) rfl dX11_count_96 ?_
    refine r_top (fun x5 e5 => ?_)
    have g5 : iR x5 := by rw [e5]; exact hM.get (by decide) _
    have hv := hv x5 e5 g5
    exact k_iret (wq_X τ ad) hx hb hr hlk hw hM g5 hv dX11_count_99
  · refine r_tblI (tgt := 100) hx hb dX11_count_1 hp1 (by omega) (by omega) (by rw [b1]; first | done | rfl) (by decide) ?_
    have hv := hv.2.2.2.2.1 b1
    refine lv_aload_n hx hb dX11_count_100 rfl (lv_at hl 0 rfl) ?_
    refine gf_X11_26 hx hb hC hw 155 (gX_155 τ ad M) rfl dX11_count_101 ?_
    refine gf_X11_302 hx hb hC hw 1 (gS_X (by decide) τ ad M) rfl dX11_count_104 ?_
    refine r_top (fun x6 e6 => ?_)
    have g6 : iR x6 := by rw [e6]; exact hM.get (by decide) _
    have hv := hv x6 e6 g6
    exact k_iret (wq_X τ ad) hx hb hr hlk hw hM g6 hv dX11_count_107
  · refine r_tblI (tgt := 108) hx hb dX11_count_1 hp1 (by omega) (by omega) (by rw [b1]; first | done | rfl) (by decide) ?_
    have hv := hv.2.2.2.2.2.1 b1
    refine lv_aload_n hx hb dX11_count_108 rfl (lv_at hl 0 rfl) ?_
    refine gf_X11_26 hx hb hC hw 155 (gX_155 τ ad M) rfl dX11_count_109 ?_
    refine gf_X11_482 hx hb hC hw 1 (gS_X (by decide) τ ad M) rfl dX11_count_112 ?_
    refine r_top (fun x7 e7 => ?_)
    have g7 : iR x7 := by rw [e7]; exact hM.get (by decide) _
    have hv := hv x7 e7 g7
    exact k_iret (wq_X τ ad) hx hb hr hlk hw hM g7 hv dX11_count_115
  · refine r_tblI (tgt := 116) hx hb dX11_count_1 hp1 (by omega) (by omega) (by rw [b1]; first | done | rfl) (by decide) ?_
    have hv := hv.2.2.2.2.2.2.1 b1
    refine lv_aload_n hx hb dX11_count_116 rfl (lv_at hl 0 rfl) ?_
    refine gf_X11_26 hx hb hC hw 155 (gX_155 τ ad M) rfl dX11_count_117 ?_
    refine k_cVi (wq_X τ ad) hx hb hml hC hLS hA hw hl.1 (mX6_rightBits l D τ ad sA sV _ 1 (by decide) M hM _ hv) kX6_rightBits ml_X11_397 rfl (gS_X (by decide) τ ad M) rfl rfl (Nat.le_of_ble_eq_true rfl) (rm_ok (by decide) (by decide)) ⟨Nat.zero_le _, Nat.zero_le _⟩ dX11_count_120 (fun x8 M8 H locs g8 hM hv hw => ?_)
    have hv := hv g8
    refine k_cSi (wq_X τ ad) hx hb hml hC hLS hA hw hl.1 (mJ6_bitCount_0f7a4X l D τ ad sA sV _ x8 g8 M8 hM _ hv) kJ6_bitCount_0f7a4 ml_X11_389 rfl rfl (Nat.le_of_ble_eq_true rfl) (rm_ok (by decide) (by decide)) ⟨Nat.zero_le _, Nat.zero_le _⟩ dX11_count_123 (fun x9 M9 H locs g9 hM hv hw => ?_)
    have hv := hv g9
    exact k_iret (wq_X τ ad) hx hb hr hlk hw hM g9 hv dX11_count_126
  · refine r_tblI (tgt := 127) hx hb dX11_count_1 hp1 (by omega) (by omega) (by rw [b1]; first | done | rfl) (by decide) ?_
    have hv := hv.2.2.2.2.2.2.2.1 b1
    refine lv_aload_n hx hb dX11_count_127 rfl (lv_at hl 0 rfl) ?_
    refine gf_X11_19 hx hb hC hw 155 (gX_155 τ ad M) rfl dX11_count_128 ?_
    refine gf_X11_486 hx hb hC hw 158 (gX_158 τ ad M) rfl dX11_count_131 ?_
    refine r_top (fun x10 e10 => ?_)
    have g10 : iR x10 := by rw [e10]; exact hM.get (by decide) _
    have hv := hv x10 e10 g10
    refine k_cSi (wq_X τ ad) hx hb hml hC hLS hA hw hl.1 (mJ6_bitCount_0f7a4X l D τ ad sA sV _ x10 g10 M hM _ hv) kJ6_bitCount_0f7a4 ml_X11_389 rfl rfl (Nat.le_of_ble_eq_true rfl) (rm_ok (by decide) (by decide)) ⟨Nat.zero_le _, Nat.zero_le _⟩ dX11_count_134 (fun x11 M11 H locs g11 hM hv hw => ?_)
    have hv := hv g11
    exact k_iret (wq_X τ ad) hx hb hr hlk hw hM g11 hv dX11_count_137
  · refine r_tblI (tgt := 138) hx hb dX11_count_1 hp1 (by omega) (by omega) (by rw [b1]; first | done | rfl) (by decide) ?_
    have hv := hv.2.2.2.2.2.2.2.2.1 b1
    refine lv_aload_n hx hb dX11_count_138 rfl (lv_at hl 0 rfl) ?_
    refine gf_X11_19 hx hb hC hw 155 (gX_155 τ ad M) rfl dX11_count_139 ?_
    refine lv_aload_n hx hb dX11_count_142 rfl (lv_at hl 0 rfl) ?_
    refine gf_X11_26 hx hb hC hw 155 (gX_155 τ ad M) rfl dX11_count_143 ?_
    refine gf_X11_333 hx hb hC hw 1 (gS_X (by decide) τ ad M) rfl dX11_count_146 ?_
    refine r_top (fun x12 e12 => ?_)
    have g12 : iR x12 := by rw [e12]; exact hM.get (by decide) _
    have hv := hv x12 e12 g12
    refine k_cVi (wq_X τ ad) hx hb hml hC hLS hA hw hl.1 (mX8_weatherAt l D τ ad sA sV _ x12 g12 M hM _ hv) kX8_weatherAt ml_X11_489 rfl (gX_158 τ ad M) rfl rfl (Nat.le_of_ble_eq_true rfl) (rm_ok (by decide) (by decide)) ⟨Nat.zero_le _, Nat.zero_le _⟩ dX11_count_149 (fun x13 M13 H locs g13 hM hv hw => ?_)
    have hv := hv g13
    exact k_iret (wq_X τ ad) hx hb hr hlk hw hM g13 hv dX11_count_152
  · refine r_tblI (tgt := 153) hx hb dX11_count_1 hp1 (by omega) (by omega) (by rw [b1]; first | done | rfl) (by decide) ?_
    have hv := hv.2.2.2.2.2.2.2.2.2.1 b1
    refine lv_aload_n hx hb dX11_count_153 rfl (lv_at hl 0 rfl) ?_
    refine gf_X11_87 hx hb hC hw 155 (gX_155 τ ad M) rfl dX11_count_154 ?_
    refine gf_X11_456 hx hb hC hw 182 (gX_182 τ ad M) rfl dX11_count_157 ?_
    refine r_top (fun x14 e14 => ?_)
    have g14 : iR x14 := by rw [e14]; exact hM.get (by decide) _
    have hv := hv x14 e14 g14
    exact k_iret (wq_X τ ad) hx hb hr hlk hw hM g14 hv dX11_count_160
  · refine r_tblI (tgt := 161) hx hb dX11_count_1 hp1 (by omega) (by omega) (by rw [b1]; first | done | rfl) (by decide) ?_
    have hv := hv.2.2.2.2.2.2.2.2.2.2.1 b1
    refine lv_aload_n hx hb dX11_count_161 rfl (lv_at hl 0 rfl) ?_
    refine gf_X11_51 hx hb hC hw 155 (gX_155 τ ad M) rfl dX11_count_162 ?_
    refine gf_X11_346 hx hb hC hw 163 (gX_163 τ ad M) rfl dX11_count_165 ?_
    refine r_top (fun x15 e15 => ?_)
    have g15 : iR x15 := by rw [e15]; exact hM.get (by decide) _
    have hv := hv x15 e15 g15
    exact k_iret (wq_X τ ad) hx hb hr hlk hw hM g15 hv dX11_count_168
  · refine r_tblI (tgt := 169) hx hb dX11_count_1 hp1 (by omega) (by omega) (by rw [b1]; first | done | rfl) (by decide) ?_
    have hv := hv.2.2.2.2.2.2.2.2.2.2.2.1 b1
    refine lv_aload_n hx hb dX11_count_169 rfl (lv_at hl 0 rfl) ?_
    refine gf_X11_66 hx hb hC hw 155 (gX_155 τ ad M) rfl dX11_count_170 ?_
    refine gf_X11_359 hx hb hC hw 167 (gX_167 τ ad M) rfl dX11_count_173 ?_
    refine r_top (fun x16 e16 => ?_)
    have g16 : iR x16 := by rw [e16]; exact hM.get (by decide) _
    have hv := hv x16 e16 g16
    exact k_iret (wq_X τ ad) hx hb hr hlk hw hM g16 hv dX11_count_176
  · refine r_tblI (tgt := 177) hx hb dX11_count_1 hp1 (by omega) (by omega) (by rw [b1]; first | done | rfl) (by decide) ?_
    have hv := hv.2.2.2.2.2.2.2.2.2.2.2.2.1 b1
    refine lv_aload_n hx hb dX11_count_177 rfl (lv_at hl 0 rfl) ?_
    refine gf_X11_10 hx hb hC hw 155 (gX_155 τ ad M) rfl dX11_count_178 ?_
    refine gf_X11_119 hx hb hC hw 156 (gX_156 τ ad M) rfl dX11_count_181 ?_
    refine r_top (fun x17 e17 => ?_)
    have g17 : iR x17 := by rw [e17]; exact hM.get (by decide) _
    have hv := hv x17 e17 g17
    exact k_iret (wq_X τ ad) hx hb hr hlk hw hM g17 hv dX11_count_184
  · refine r_tblO (tgt := 185) hx hb dX11_count_1 hp1 b1 (by decide) ?_
    have hv := hv.2.2.2.2.2.2.2.2.2.2.2.2.2 b1
    refine r_bipush hx hb dX11_count_185 (by decide +kernel) ?_
    exact k_iret (wq_X τ ad) hx hb hr hlk hw hM (by decide) hv dX11_count_187
set_option maxHeartbeats 4000000 in
set_option maxRecDepth 100000 in
theorem mX11_paceNow (l : Launch) (D : va_G) (τ : Nat → ClassId) (ad : Nat → Nat) (sA sV : Nat → Nat) (sz : Nat) (p1 : Int) (hp1 : iR p1) (M : Mem) (hM : MR M) (Q : Int → Mem → Prop) (hv : qX11_paceNow p1 M Q) : Met l yX11_paceNow (lw_w yX11_paceNow cX11_paceNow 2 (some .int)) (rmk 3 0 0) (kPc D τ sA sV (WX τ ad M) sz [.ref (ad 155), .int (iI p1)]) (gQi D (EQi (WX τ ad) MR Q) (va_A (WX τ ad M) sz)) 0 0 (va_A (WX τ ad M) sz) := by
  refine k_met (ret := (some .int)) (Qc := gQi D (EQi (WX τ ad) MR Q)) (by decide +kernel) (Nat.le_of_ble_eq_true rfl) ?_
  intro p e s m args below meth c A ls hx hb hml hr hlk hnm hC hLS hA hw hl
  have hC : cx D τ s m args RX11 := hC
  have hl : lv_has ls 2 [(0, .ref (ad 155)), (1, .int (iI p1))] := hl
  unfold qX11_paceNow at hv
  refine lv_aload_n hx hb dX11_paceNow_0 rfl (lv_at hl 0 rfl) ?_
  refine gf_X11_26 hx hb hC hw 155 (gX_155 τ ad M) rfl dX11_paceNow_1 ?_
  refine lv_iload_n hx hb dX11_paceNow_4 rfl (lv_at hl 1 rfl) ?_
  refine k_cVz (wq_X τ ad) hx hb hml hC hLS hA hw hl.1 (mX6_hasArrived l D τ ad sA sV _ 1 p1 (by decide) hp1 M hM _ hv) kX6_hasArrived ml_X11_255 rfl (gS_X (by decide) τ ad M) rfl rfl (Nat.le_of_ble_eq_true rfl) (rm_ok (by decide) (by decide)) ⟨Nat.zero_le _, Nat.zero_le _⟩ dX11_paceNow_5 (fun x1 M1 H locs g1 z1 hM hv hw => ?_)
  have hv := hv g1 z1
  refine r_if_eq (tgt := 13) hx hb dX11_paceNow_8 (by decide) g1  (fun b2 => ?_) (fun b2 => ?_)
  · have hv := hv.1 b2
    refine lv_aload_n hx hb dX11_paceNow_13 rfl (lv_at hl 0 rfl) ?_
    refine gf_X11_105 hx hb hC hw 155 (gX_155 τ ad M1) rfl dX11_paceNow_14 ?_
    obtain ⟨c3, hv⟩ := hv
    refine lv_aload_n hx hb dX11_paceNow_17 rfl (lv_at hl 0 rfl) ?_
    refine gf_X11_26 hx hb hC hw 155 (gX_155 τ ad M1) rfl dX11_paceNow_18 ?_
    refine lv_aload_n hx hb dX11_paceNow_21 rfl (lv_at hl 0 rfl) ?_
    refine gf_X11_19 hx hb hC hw 155 (gX_155 τ ad M1) rfl dX11_paceNow_22 ?_
    refine lv_iload_n hx hb dX11_paceNow_25 rfl (lv_at hl 1 rfl) ?_
    refine k_cVv (wq_X τ ad) hx hb hml hC hLS hA hw hl.1 (mX2_observe l D τ ad sA sV _ (M1 155 16).toNat 1 p1 c3 (by decide) hp1 M1 hM _ hv) kX2_observe ml_X11_258 rfl (gL_X c3 τ ad M1) rfl rfl (Nat.le_of_ble_eq_true rfl) (rm_ok (by decide) (by decide)) ⟨Nat.zero_le _, Nat.zero_le _⟩ dX11_paceNow_26 (fun M4 H locs hM hv hw => ?_)
    refine lv_aload_n hx hb dX11_paceNow_29 rfl (lv_at hl 0 rfl) ?_
    refine gf_X11_105 hx hb hC hw 155 (gX_155 τ ad M4) rfl dX11_paceNow_30 ?_
    obtain ⟨c5, hv⟩ := hv
    refine k_cVi (wq_X τ ad) hx hb hml hC hLS hA hw hl.1 (mX2_pace l D τ ad sA sV _ (M4 155 16).toNat c5 M4 hM _ hv) kX2_pace ml_X11_262 rfl (gL_X c5 τ ad M4) rfl rfl (Nat.le_of_ble_eq_true rfl) (rm_ok (by decide) (by decide)) ⟨Nat.zero_le _, Nat.zero_le _⟩ dX11_paceNow_33 (fun x6 M6 H locs g6 hM hv hw => ?_)
    have hv := hv g6
    exact k_iret (wq_X τ ad) hx hb hr hlk hw hM g6 hv dX11_paceNow_36
  · have hv := hv.2 b2
    refine r_iconst hx hb dX11_paceNow_11 ?_
    exact k_iret (wq_X τ ad) hx hb hr hlk hw hM (by decide) hv dX11_paceNow_12
end
section
set_option maxHeartbeats 4000000 in
set_option maxRecDepth 100000 in
theorem mJ6_bitCount_0f7a4M (l : Launch) (D : va_G) (τ : Nat → ClassId) (ad : Nat → Nat) (sA sV : Nat → Nat) (sz : Nat) (p0 : Int) (hp0 : iR p0) (M : Mem) (hM : MR M) (Q : Int → Mem → Prop) (hv : qJ6_bitCount_0f7a4 p0 M Q) : Met l yJ6_bitCount_0f7a4 (lw_w yJ6_bitCount_0f7a4 cJ6_bitCount_0f7a4 1 (some .int)) (rmk 1 0 0) (kPc D τ sA sV (WM τ ad M) sz [.int (iI p0)]) (gQi D (EQi (WM τ ad) MR Q) (va_A (WM τ ad M) sz)) 0 0 (va_A (WM τ ad M) sz) := by
  refine k_metF (ret := (some .int)) (Qc := gQi D (EQi (WM τ ad) MR Q)) (by decide +kernel) (Nat.le_of_ble_eq_true rfl) ?_
  intro p e s m args below meth c A ls hx hb hml hr hlk hnm hC hLS hA hw hl
  have hC : cx D τ s m args RJ6 := hC
  have hl : lv_has ls 1 [(0, .int (iI p0))] := hl
  unfold qJ6_bitCount_0f7a4 at hv
  refine lv_iload_n hx hb dJ6_bitCount_0f7a4_0 rfl (lv_at hl 0 rfl) ?_
  refine lv_iload_n hx hb dJ6_bitCount_0f7a4_1 rfl (lv_at hl 0 rfl) ?_
  refine r_iconst hx hb dJ6_bitCount_0f7a4_2 ?_
  refine r_iushrF hx hb dJ6_bitCount_0f7a4_3 (fun x1 e1 g1 => ?_)
  have hv := hv x1 e1 g1
  refine r_ldcw (z := 1431655765) hx hb hC ct_J6_265 (by decide +kernel) dJ6_bitCount_0f7a4_4 ?_
  refine r_iandF hx hb dJ6_bitCount_0f7a4_7 (fun x2 e2 g2 => ?_)
  have hv := hv x2 e2 g2
  refine r_isub (z := (p0 - x2)) hx hb dJ6_bitCount_0f7a4_8 rfl ?_
  refine lv_istore_n (lv' := [(0, .int (iI (p0 - x2)))]) hx hb dJ6_bitCount_0f7a4_9 rfl hl (by decide) rfl (fun ls hl => ?_)
  refine lv_iload_n hx hb dJ6_bitCount_0f7a4_10 rfl (lv_at hl 0 rfl) ?_
  refine r_ldcw (z := 858993459) hx hb hC ct_J6_266 (by decide +kernel) dJ6_bitCount_0f7a4_11 ?_
  refine r_iandF hx hb dJ6_bitCount_0f7a4_14 (fun x3 e3 g3 => ?_)
  have hv := hv x3 e3 g3
  refine lv_iload_n hx hb dJ6_bitCount_0f7a4_15 rfl (lv_at hl 0 rfl) ?_
  refine r_iconst hx hb dJ6_bitCount_0f7a4_16 ?_
  refine r_iushrF hx hb dJ6_bitCount_0f7a4_17 (fun x4 e4 g4 => ?_)
  have hv := hv x4 e4 g4
  refine r_ldcw (z := 858993459) hx hb hC ct_J6_266 (by decide +kernel) dJ6_bitCount_0f7a4_18 ?_
  refine r_iandF hx hb dJ6_bitCount_0f7a4_21 (fun x5 e5 g5 => ?_)
  have hv := hv x5 e5 g5
  refine r_iadd (z := (x3 + x5)) hx hb dJ6_bitCount_0f7a4_22 rfl ?_
  refine lv_istore_n (lv' := [(0, .int (iI (x3 + x5)))]) hx hb dJ6_bitCount_0f7a4_23 rfl hl (by decide) rfl (fun ls hl => ?_)
  refine lv_iload_n hx hb dJ6_bitCount_0f7a4_24 rfl (lv_at hl 0 rfl) ?_
  refine lv_iload_n hx hb dJ6_bitCount_0f7a4_25 rfl (lv_at hl 0 rfl) ?_
  refine r_iconst hx hb dJ6_bitCount_0f7a4_26 ?_
  refine r_iushrF hx hb dJ6_bitCount_0f7a4_27 (fun x6 e6 g6 => ?_)
  have hv := hv x6 e6 g6
  refine r_iadd (z := ((x3 + x5) + x6)) hx hb dJ6_bitCount_0f7a4_28 rfl ?_
  refine r_ldcw (z := 252645135) hx hb hC ct_J6_267 (by decide +kernel) dJ6_bitCount_0f7a4_29 ?_
  refine r_iandF hx hb dJ6_bitCount_0f7a4_32 (fun x7 e7 g7 => ?_)
  have hv := hv x7 e7 g7
  refine lv_istore_n (lv' := [(0, .int (iI x7))]) hx hb dJ6_bitCount_0f7a4_33 rfl hl (by decide) rfl (fun ls hl => ?_)
  refine lv_iload_n hx hb dJ6_bitCount_0f7a4_34 rfl (lv_at hl 0 rfl) ?_
  refine lv_iload_n hx hb dJ6_bitCount_0f7a4_35 rfl (lv_at hl 0 rfl) ?_
  refine r_bipush hx hb dJ6_bitCount_0f7a4_36 (by decide +kernel) ?_
  refine r_iushrF hx hb dJ6_bitCount_0f7a4_38 (fun x8 e8 g8 => ?_)
  have hv := hv x8 e8 g8
  refine r_iadd (z := (x7 + x8)) hx hb dJ6_bitCount_0f7a4_39 rfl ?_
  refine lv_istore_n (lv' := [(0, .int (iI (x7 + x8)))]) hx hb dJ6_bitCount_0f7a4_40 rfl hl (by decide) rfl (fun ls hl => ?_)
  refine lv_iload_n hx hb dJ6_bitCount_0f7a4_41 rfl (lv_at hl 0 rfl) ?_
  refine lv_iload_n hx hb dJ6_bitCount_0f7a4_42 rfl (lv_at hl 0 rfl) ?_
  refine r_bipush hx hb dJ6_bitCount_0f7a4_43 (by decide +kernel) ?_
  refine r_iushrF hx hb dJ6_bitCount_0f7a4_45 (fun x9 e9 g9 => ?_)
  have hv := hv x9 e9 g9
  refine r_iadd (z := ((x7 + x8) + x9)) hx hb dJ6_bitCount_0f7a4_46 rfl ?_
  refine lv_istore_n (lv' := [(0, .int (iI ((x7 + x8) + x9)))]) hx hb dJ6_bitCount_0f7a4_47 rfl hl (by decide) rfl (fun ls hl => ?_)
  refine lv_iload_n hx hb dJ6_bitCount_0f7a4_48 rfl (lv_at hl 0 rfl) ?_
  refine r_bipush hx hb dJ6_bitCount_0f7a4_49 (by decide +kernel) ?_
  refine r_iandF hx hb dJ6_bitCount_0f7a4_51 (fun x10 e10 g10 => ?_)
  have hv := hv x10 e10 g10
  exact k_iret (wq_M τ ad) hx hb hr hlk hw hM g10 hv dJ6_bitCount_0f7a4_52
set_option maxHeartbeats 4000000 in
set_option maxRecDepth 100000 in
theorem mX12_sign (l : Launch) (D : va_G) (τ : Nat → ClassId) (ad : Nat → Nat) (sA sV : Nat → Nat) (sz : Nat) (p1 : Int) (hp1 : iR p1) (M : Mem) (hM : MR M) (Q : Int → Mem → Prop) (hv : qX12_sign p1 M Q) : Met l yX12_sign (lw_w yX12_sign cX12_sign 3 (some .int)) (rmk 1 0 0) (kPc D τ sA sV (WM τ ad M) sz [.ref (ad 1), .int (iI p1)]) (gQi D (EQi (WM τ ad) MR Q) (va_A (WM τ ad M) sz)) 0 0 (va_A (WM τ ad M) sz) := by
  refine k_met (ret := (some .int)) (Qc := gQi D (EQi (WM τ ad) MR Q)) (by decide +kernel) (Nat.le_of_ble_eq_true rfl) ?_
  intro p e s m args below meth c A ls hx hb hml hr hlk hnm hC hLS hA hw hl
  have hC : cx D τ s m args RX12 := hC
  have hl : lv_has ls 3 [(0, .ref (ad 1)), (1, .int (iI p1))] := hl
  unfold qX12_sign at hv
  have L18 : ∀ (X53 : Mem → Prop), (∀  (M : Mem) (H : Heap) (locs : List Loc) (ls : Array Slot), MR M → X53  M → wS D A s.heap (WM τ ad M) H locs → lv_has ls 3 [(0, .ref (ad 1))] → W p l e (rmk 1 0 0) s m args below meth c H locs 0 0 (MQ below (gQi D (EQi (WM τ ad) MR Q) A) args s 0 0 A) (F0 m 53 ls [])) → ∀ (n : Nat) (v2 : Int) (M : Mem) (H : Heap) (locs : List Loc) (ls : Array Slot), MR M → qX12_sign_L18 p1 X53 Q n v2 M → wS D A s.heap (WM τ ad M) H locs → lv_has ls 3 [(0, .ref (ad 1)), (1, .int (iI p1)), (2, .int (iI v2))] → W p l e (rmk 1 0 0) s m args below meth c H locs 0 0 (MQ below (gQi D (EQi (WM τ ad) MR Q) A) args s 0 0 A) (F0 m 18 ls []) := by
    intro X53 hX53 n
    induction n with
    | zero => intro v2 M H locs ls hM hv; rw [qX12_sign_L18] at hv; exact hv.elim
    | succ n ih =>
      intro v2 M H locs ls hM hv hw hl
      rw [qX12_sign_L18] at hv
      refine lv_iload_n hx hb dX12_sign_18 rfl (lv_at hl 2 rfl) ?_
      refine r_iconst hx hb dX12_sign_19 ?_
      obtain ⟨c4, hv⟩ := hv
      refine r_icmp_ge (tgt := 53) hx hb dX12_sign_20 (by decide) c4 (by decide) (fun b5 => ?_) (fun b5 => ?_)
      · have hv := hv.1 b5
        exact hX53  M _ _ _ hM hv hw (lv_sub hl [0] rfl)
      · have hv := hv.2 b5
        refine lv_aload_n hx hb dX12_sign_23 rfl (lv_at hl 0 rfl) ?_
        refine gf_X12_37 hx hb hC hw 1 (gM_1 τ ad M) rfl dX12_sign_24 ?_
        refine lv_aload_n hx hb dX12_sign_27 rfl (lv_at hl 0 rfl) ?_
        refine gf_X12_136 hx hb hC hw 1 (gM_1 τ ad M) rfl dX12_sign_28 ?_
        refine r_top (fun x6 e6 => ?_)
        have g6 : iR x6 := by rw [e6]; exact hM.get (by decide) _
        have hv := hv x6 e6 g6
        refine lv_iload_n hx hb dX12_sign_31 rfl (lv_at hl 2 rfl) ?_
        refine r_iadd (z := (x6 + v2)) hx hb dX12_sign_32 rfl ?_
        refine lv_iload_n hx hb dX12_sign_33 rfl (lv_at hl 1 rfl) ?_
        refine r_bipush hx hb dX12_sign_34 (by decide +kernel) ?_
        refine r_bipush hx hb dX12_sign_36 (by decide +kernel) ?_
        refine lv_iload_n hx hb dX12_sign_38 rfl (lv_at hl 2 rfl) ?_
        refine r_imul (z := (8 * v2)) hx hb dX12_sign_39 rfl ?_
        refine r_isub (z := (24 - (8 * v2))) hx hb dX12_sign_40 rfl ?_
        refine r_ishrF hx hb dX12_sign_41 (fun x7 e7 g7 => ?_)
        have hv := hv x7 e7 g7
        refine r_sipush hx hb dX12_sign_42 (by decide +kernel) ?_
        refine r_iandF hx hb dX12_sign_45 (fun x8 e8 g8 => ?_)
        have hv := hv x8 e8 g8
        obtain ⟨c9, hv⟩ := hv
        obtain ⟨c10, hv⟩ := hv
        obtain ⟨M11, e11⟩ : ∃ M11 : Mem, M11 = up2 M 7 (x6 + v2) x8 := ⟨_, rfl⟩
        have hv := hv M11 e11
        refine r_iast (ws' := (WM τ ad M11)) hx hb hC hw 7 (gI_M aM_7 τ ad M) c9 c10 (by decide) (by rw [e11]; exact sI_M aM_7 τ ad M _ _) dX12_sign_46 (fun H locs hw => ?_)
        have hM : MR M11 := by rw [e11]; exact hM.put aM_7.pos g8
        refine r_iinc (v := (v2 + 1)) (lv' := [(2, .int (iI (v2 + 1))), (0, .ref (ad 1)), (1, .int (iI p1))]) hx hb dX12_sign_47 hl (k := 2) rfl rfl (by decide) rfl (fun ls hl => ?_)
        refine lv_goto (tgt := 18) hx hb dX12_sign_50 (by decide) ?_
        exact ih (v2 + 1) M11 _ _ _ hM hv hw (lv_sub hl [1, 2, 0] rfl)
  refine lv_aload_n hx hb dX12_sign_0 rfl (lv_at hl 0 rfl) ?_
  refine r_iconst hx hb dX12_sign_1 ?_
  obtain ⟨M1, e1⟩ : ∃ M1 : Mem, M1 = up2 M 1 0 0 := ⟨_, rfl⟩
  have hv := hv M1 e1
  refine pf_X12_112 (ws' := (WM τ ad M1)) hx hb hC hw 1 (gM_1 τ ad M) (Nat.le_of_ble_eq_true rfl) (by rw [e1]; exact sM_1_0 τ ad M _) dX12_sign_2 (fun H locs hw => ?_)
  have hM : MR M1 := by rw [e1]; exact hM.put (by decide) (by decide)
  refine lv_aload_n hx hb dX12_sign_5 rfl (lv_at hl 0 rfl) ?_
  refine gf_X12_136 hx hb hC hw 1 (gM_1 τ ad M1) rfl dX12_sign_6 ?_
  refine r_top (fun x2 e2 => ?_)
  have g2 : iR x2 := by rw [e2]; exact hM.get (by decide) _
  have hv := hv x2 e2 g2
  refine r_bipush hx hb dX12_sign_9 (by decide +kernel) ?_
  refine r_icmp_le (tgt := 16) hx hb dX12_sign_11 (by decide) g2 (by decide) (fun b3 => ?_) (fun b3 => ?_)
  · have hv := hv.1 b3
    refine r_iconst hx hb dX12_sign_16 ?_
    refine lv_istore_n (lv' := [(2, .int (iI 0)), (0, .ref (ad 1)), (1, .int (iI p1))]) hx hb dX12_sign_17 rfl hl (by decide) rfl (fun ls hl => ?_)
    obtain ⟨n12, hv⟩ := hv
    refine L18 _ ?_ n12 0 M1 _ _ _ hM hv hw (lv_sub hl [1, 2, 0] rfl)
    · intro  M H locs ls hM hv hw hl
      refine lv_aload_n hx hb dX12_sign_53 rfl (lv_at hl 0 rfl) ?_
      refine lv_dup hx hb dX12_sign_54 rfl ?_
      refine gf_X12_136 hx hb hC hw 1 (gM_1 τ ad M) rfl dX12_sign_55 ?_
      refine r_top (fun x13 e13 => ?_)
      have g13 : iR x13 := by rw [e13]; exact hM.get (by decide) _
      have hv := hv x13 e13 g13
      refine r_iconst hx hb dX12_sign_58 ?_
      refine r_iadd (z := (x13 + 4)) hx hb dX12_sign_59 rfl ?_
      obtain ⟨c14, hv⟩ := hv
      obtain ⟨M15, e15⟩ : ∃ M15 : Mem, M15 = up2 M 1 14 (x13 + 4) := ⟨_, rfl⟩
      have hv := hv M15 e15
      refine pf_X12_136 (ws' := (WM τ ad M15)) hx hb hC hw 1 (gM_1 τ ad M) (Nat.le_of_ble_eq_true rfl) (by rw [e15]; exact sM_1_14 τ ad M _) dX12_sign_60 (fun H locs hw => ?_)
      have hM : MR M15 := by rw [e15]; exact hM.put (by decide) c14
      refine lv_aload_n hx hb dX12_sign_63 rfl (lv_at hl 0 rfl) ?_
      refine gf_X12_136 hx hb hC hw 1 (gM_1 τ ad M15) rfl dX12_sign_64 ?_
      refine r_top (fun x16 e16 => ?_)
      have g16 : iR x16 := by rw [e16]; exact hM.get (by decide) _
      have hv := hv x16 e16 g16
      exact k_iret (wq_M τ ad) hx hb hr hlk hw hM g16 hv dX12_sign_67
  · have hv := hv.2 b3
    refine r_iconst hx hb dX12_sign_14 ?_
    exact k_iret (wq_M τ ad) hx hb hr hlk hw hM (by decide) hv dX12_sign_15
set_option maxHeartbeats 4000000 in
set_option maxRecDepth 100000 in
theorem mX12_in (l : Launch) (D : va_G) (τ : Nat → ClassId) (ad : Nat → Nat) (sA sV : Nat → Nat) (sz : Nat) (p0 : Int) (p2 : Int) (p4 : Int) (hp0 : lR p0) (hp2 : lR p2) (hp4 : lR p4) (M : Mem) (hM : MR M) (Q : Int → Mem → Prop) (hv : qX12_in p0 p2 p4 M Q) : Met l yX12_in (lw_w yX12_in cX12_in 6 (some .boolean)) (rmk 1 0 0) (kPc D τ sA sV (WM τ ad M) sz [.long (lI p0), .long (lI p2), .long (lI p4)]) (gQi D (EQz (WM τ ad) MR Q) (va_A (WM τ ad M) sz)) 0 0 (va_A (WM τ ad M) sz) := by
  refine k_met (ret := (some .boolean)) (Qc := gQi D (EQz (WM τ ad) MR Q)) (by decide +kernel) (Nat.le_of_ble_eq_true rfl) ?_
  intro p e s m args below meth c A ls hx hb hml hr hlk hnm hC hLS hA hw hl
  have hC : cx D τ s m args RX12 := hC
  have hl : lv_has ls 6 [(0, .long (lI p0)), (2, .long (lI p2)), (4, .long (lI p4))] := hl
  unfold qX12_in at hv
  refine lv_lload_n hx hb dX12_in_0 rfl (lv_at hl 0 rfl) ?_
  refine lv_lload_n hx hb dX12_in_1 rfl (lv_at hl 1 rfl) ?_
  refine r_lcmp hx hb hp0 hp2 dX12_in_2 (fun x1 g1 e1 => ?_)
  have hv := hv x1 g1 e1
  refine r_if_lt (tgt := 17) hx hb dX12_in_3 (by decide) g1  (fun b2 => ?_) (fun b2 => ?_)
  · have hv := hv.1 b2
    refine r_iconst hx hb dX12_in_17 ?_
    exact k_zret (wq_M τ ad) hx hb hr hlk hw hM (by decide) (by decide) hv dX12_in_18
  · have hv := hv.2 b2
    refine lv_lload_n hx hb dX12_in_6 rfl (lv_at hl 0 rfl) ?_
    refine lv_lload hx hb dX12_in_7 (lv_at hl 2 rfl) ?_
    refine r_lcmp hx hb hp0 hp4 dX12_in_9 (fun x3 g3 e3 => ?_)
    have hv := hv x3 g3 e3
    refine r_if_gt (tgt := 17) hx hb dX12_in_10 (by decide) g3  (fun b4 => ?_) (fun b4 => ?_)
    · have hv := hv.1 b4
      refine r_iconst hx hb dX12_in_17 ?_
      exact k_zret (wq_M τ ad) hx hb hr hlk hw hM (by decide) (by decide) hv dX12_in_18
    · have hv := hv.2 b4
      refine r_iconst hx hb dX12_in_13 ?_
      refine lv_goto (tgt := 18) hx hb dX12_in_14 (by decide) ?_
      exact k_zret (wq_M τ ad) hx hb hr hlk hw hM (by decide) (by decide) hv dX12_in_18
set_option maxHeartbeats 4000000 in
set_option maxRecDepth 100000 in
theorem mX12_end (l : Launch) (D : va_G) (τ : Nat → ClassId) (ad : Nat → Nat) (sA sV : Nat → Nat) (sz : Nat) (p1 : Int) (hp1 : iR p1) (M : Mem) (hM : MR M) (Q : Int → Mem → Prop) (hv : qX12_end p1 M Q) : Met l yX12_end (lw_w yX12_end cX12_end 2 (some .boolean)) (rmk 2 0 0) (kPc D τ sA sV (WM τ ad M) sz [.ref (ad 1), .int (iI p1)]) (gQi D (EQz (WM τ ad) MR Q) (va_A (WM τ ad M) sz)) 0 0 (va_A (WM τ ad M) sz) := by
  refine k_met (ret := (some .boolean)) (Qc := gQi D (EQz (WM τ ad) MR Q)) (by decide +kernel) (Nat.le_of_ble_eq_true rfl) ?_
  intro p e s m args below meth c A ls hx hb hml hr hlk hnm hC hLS hA hw hl
  have hC : cx D τ s m args RX12 := hC
  have hl : lv_has ls 2 [(0, .ref (ad 1)), (1, .int (iI p1))] := hl
  unfold qX12_end at hv
  refine lv_aload_n hx hb dX12_end_0 rfl (lv_at hl 0 rfl) ?_
  refine r_iconst hx hb dX12_end_1 ?_
  obtain ⟨M1, e1⟩ : ∃ M1 : Mem, M1 = up2 M 1 0 0 := ⟨_, rfl⟩
  have hv := hv M1 e1
  refine pf_X12_112 (ws' := (WM τ ad M1)) hx hb hC hw 1 (gM_1 τ ad M) (Nat.le_of_ble_eq_true rfl) (by rw [e1]; exact sM_1_0 τ ad M _) dX12_end_2 (fun H locs hw => ?_)
  have hM : MR M1 := by rw [e1]; exact hM.put (by decide) (by decide)
  refine lv_iload_n hx hb dX12_end_5 rfl (lv_at hl 1 rfl) ?_
  refine r_i2l hx hb dX12_end_6 hp1 ?_
  refine r_lconst (z := 0) hx hb dX12_end_7 (by decide +kernel) ?_
  refine lv_aload_n hx hb dX12_end_8 rfl (lv_at hl 0 rfl) ?_
  refine gf_X12_136 hx hb hC hw 1 (gM_1 τ ad M1) rfl dX12_end_9 ?_
  refine r_top (fun x2 e2 => ?_)
  have g2 : iR x2 := by rw [e2]; exact hM.get (by decide) _
  have hv := hv x2 e2 g2
  refine r_i2l hx hb dX12_end_12 g2 ?_
  refine k_cSz (wq_M τ ad) hx hb hml hC hLS hA hw hl.1 (mX12_in l D τ ad sA sV _ p1 0 x2 (iR_lR hp1) (by decide) (iR_lR g2) M1 hM _ hv) kX12_in ml_X12_125 rfl rfl (Nat.le_of_ble_eq_true rfl) (rm_ok (by decide) (by decide)) ⟨Nat.zero_le _, Nat.zero_le _⟩ dX12_end_13 (fun x3 M3 H locs g3 z3 hM hv hw => ?_)
  have hv := hv g3 z3
  refine r_if_ne (tgt := 21) hx hb dX12_end_16 (by decide) g3  (fun b4 => ?_) (fun b4 => ?_)
  · have hv := hv.1 b4
    refine lv_aload_n hx hb dX12_end_21 rfl (lv_at hl 0 rfl) ?_
    refine lv_iload_n hx hb dX12_end_22 rfl (lv_at hl 1 rfl) ?_
    obtain ⟨M5, e5⟩ : ∃ M5 : Mem, M5 = up2 M3 1 14 p1 := ⟨_, rfl⟩
    have hv := hv M5 e5
    refine pf_X12_136 (ws' := (WM τ ad M5)) hx hb hC hw 1 (gM_1 τ ad M3) (Nat.le_of_ble_eq_true rfl) (by rw [e5]; exact sM_1_14 τ ad M3 _) dX12_end_23 (fun H locs hw => ?_)
    have hM : MR M5 := by rw [e5]; exact hM.put (by decide) hp1
    refine r_iconst hx hb dX12_end_26 ?_
    exact k_zret (wq_M τ ad) hx hb hr hlk hw hM (by decide) (by decide) hv dX12_end_27
  · have hv := hv.2 b4
    refine r_iconst hx hb dX12_end_19 ?_
    exact k_zret (wq_M τ ad) hx hb hr hlk hw hM (by decide) (by decide) hv dX12_end_20
set_option maxHeartbeats 4000000 in
set_option maxRecDepth 100000 in
theorem mX12_begins (l : Launch) (D : va_G) (τ : Nat → ClassId) (ad : Nat → Nat) (sA sV : Nat → Nat) (sz : Nat) (p1 : Int) (hp1 : iR p1) (M : Mem) (hM : MR M) (Q : Int → Mem → Prop) (hv : qX12_begins p1 M Q) : Met l yX12_begins (lw_w yX12_begins cX12_begins 3 (some .int)) (rmk 1 0 0) (kPc D τ sA sV (WM τ ad M) sz [.ref (ad 1), .int (iI p1)]) (gQi D (EQi (WM τ ad) MR Q) (va_A (WM τ ad M) sz)) 0 0 (va_A (WM τ ad M) sz) := by
  refine k_met (ret := (some .int)) (Qc := gQi D (EQi (WM τ ad) MR Q)) (by decide +kernel) (Nat.le_of_ble_eq_true rfl) ?_
  intro p e s m args below meth c A ls hx hb hml hr hlk hnm hC hLS hA hw hl
  have hC : cx D τ s m args RX12 := hC
  have hl : lv_has ls 3 [(0, .ref (ad 1)), (1, .int (iI p1))] := hl
  unfold qX12_begins at hv
  refine lv_aload_n hx hb dX12_begins_0 rfl (lv_at hl 0 rfl) ?_
  refine gf_X12_136 hx hb hC hw 1 (gM_1 τ ad M) rfl dX12_begins_1 ?_
  refine r_top (fun x1 e1 => ?_)
  have g1 : iR x1 := by rw [e1]; exact hM.get (by decide) _
  have hv := hv x1 e1 g1
  refine lv_istore_n (lv' := [(2, .int (iI x1)), (0, .ref (ad 1)), (1, .int (iI p1))]) hx hb dX12_begins_4 rfl hl (by decide) rfl (fun ls hl => ?_)
  refine lv_aload_n hx hb dX12_begins_5 rfl (lv_at hl 1 rfl) ?_
  refine r_iconst hx hb dX12_begins_6 ?_
  obtain ⟨M2, e2⟩ : ∃ M2 : Mem, M2 = up2 M 1 14 0 := ⟨_, rfl⟩
  have hv := hv M2 e2
  refine pf_X12_136 (ws' := (WM τ ad M2)) hx hb hC hw 1 (gM_1 τ ad M) (Nat.le_of_ble_eq_true rfl) (by rw [e2]; exact sM_1_14 τ ad M _) dX12_begins_7 (fun H locs hw => ?_)
  have hM : MR M2 := by rw [e2]; exact hM.put (by decide) (by decide)
  refine lv_aload_n hx hb dX12_begins_10 rfl (lv_at hl 1 rfl) ?_
  refine r_iconst hx hb dX12_begins_11 ?_
  obtain ⟨M3, e3⟩ : ∃ M3 : Mem, M3 = up2 M2 1 15 0 := ⟨_, rfl⟩
  have hv := hv M3 e3
  refine pf_X12_139 (ws' := (WM τ ad M3)) hx hb hC hw 1 (gM_1 τ ad M2) (Nat.le_of_ble_eq_true rfl) (by rw [e3]; exact sM_1_15 τ ad M2 _) dX12_begins_12 (fun H locs hw => ?_)
  have hM : MR M3 := by rw [e3]; exact hM.put (by decide) (by decide)
  refine lv_aload_n hx hb dX12_begins_15 rfl (lv_at hl 1 rfl) ?_
  refine r_iconst hx hb dX12_begins_16 ?_
  obtain ⟨M4, e4⟩ : ∃ M4 : Mem, M4 = up2 M3 1 17 0 := ⟨_, rfl⟩
  have hv := hv M4 e4
  refine pf_X12_142 (ws' := (WM τ ad M4)) hx hb hC hw 1 (gM_1 τ ad M3) (Nat.le_of_ble_eq_true rfl) (by rw [e4]; exact sM_1_17 τ ad M3 _) dX12_begins_17 (fun H locs hw => ?_)
  have hM : MR M4 := by rw [e4]; exact hM.put (by decide) (by decide)
  refine lv_aload_n hx hb dX12_begins_20 rfl (lv_at hl 1 rfl) ?_
  refine lv_iload_n hx hb dX12_begins_21 rfl (lv_at hl 0 rfl) ?_
  refine lv_iload_n hx hb dX12_begins_22 rfl (lv_at hl 2 rfl) ?_
  refine r_mminF hx hb hml hC hl.1 ml_X12_145 sm_min in_J9 cd_min (by decide) (Nat.le_of_ble_eq_true rfl) (Nat.zero_le _) (Nat.zero_le _) g1 hp1 dX12_begins_23 (fun x5 e5 g5 => ?_)
  have hv := hv x5 e5 g5
  obtain ⟨M6, e6⟩ : ∃ M6 : Mem, M6 = up2 M4 1 16 x5 := ⟨_, rfl⟩
  have hv := hv M6 e6
  refine pf_X12_151 (ws' := (WM τ ad M6)) hx hb hC hw 1 (gM_1 τ ad M4) (Nat.le_of_ble_eq_true rfl) (by rw [e6]; exact sM_1_16 τ ad M4 _) dX12_begins_26 (fun H locs hw => ?_)
  have hM : MR M6 := by rw [e6]; exact hM.put (by decide) g5
  refine lv_iload_n hx hb dX12_begins_29 rfl (lv_at hl 0 rfl) ?_
  exact k_iret (wq_M τ ad) hx hb hr hlk hw hM g1 hv dX12_begins_30
set_option maxHeartbeats 4000000 in
set_option maxRecDepth 100000 in
theorem mX12_flag (l : Launch) (D : va_G) (τ : Nat → ClassId) (ad : Nat → Nat) (sA sV : Nat → Nat) (sz : Nat) (p0 : Int) (hp0 : iR p0) (M : Mem) (hM : MR M) (Q : Int → Mem → Prop) (hv : qX12_flag p0 M Q) : Met l yX12_flag (lw_w yX12_flag cX12_flag 1 (some .int)) (rmk 1 0 0) (kPc D τ sA sV (WM τ ad M) sz [.int (iI p0)]) (gQi D (EQi (WM τ ad) MR Q) (va_A (WM τ ad M) sz)) 0 0 (va_A (WM τ ad M) sz) := by
  refine k_met (ret := (some .int)) (Qc := gQi D (EQi (WM τ ad) MR Q)) (by decide +kernel) (Nat.le_of_ble_eq_true rfl) ?_
  intro p e s m args below meth c A ls hx hb hml hr hlk hnm hC hLS hA hw hl
  have hC : cx D τ s m args RX12 := hC
  have hl : lv_has ls 1 [(0, .int (iI p0))] := hl
  unfold qX12_flag at hv
  refine lv_iload_n hx hb dX12_flag_0 rfl (lv_at hl 0 rfl) ?_
  refine r_if_eq (tgt := 8) hx hb dX12_flag_1 (by decide) hp0  (fun b1 => ?_) (fun b1 => ?_)
  · have hv := hv.1 b1
    refine r_iconst hx hb dX12_flag_8 ?_
    exact k_iret (wq_M τ ad) hx hb hr hlk hw hM (by decide) hv dX12_flag_9
  · have hv := hv.2 b1
    refine r_iconst hx hb dX12_flag_4 ?_
    refine lv_goto (tgt := 9) hx hb dX12_flag_5 (by decide) ?_
    exact k_iret (wq_M τ ad) hx hb hr hlk hw hM (by decide) hv dX12_flag_9
set_option maxHeartbeats 4000000 in
set_option maxRecDepth 100000 in
theorem mX12_takesOf (l : Launch) (D : va_G) (τ : Nat → ClassId) (ad : Nat → Nat) (sA sV : Nat → Nat) (sz : Nat) (sa sv : Nat) (bs : List Int)  (M : Mem) (hM : MR M) (Q : Int → Mem → Prop) (hv : qX12_takesOf bs M Q) : Met l yX12_takesOf (lw_w yX12_takesOf cX12_takesOf 3 (some .int)) (rmk 5 0 0) (tPc D τ sA sV (WM τ ad M) sz sa sv bs [.ref (ad 1), .ref sa]) (gQi D (EQi (WM τ ad) MR Q) (va_A (WM τ ad M) sz)) 0 0 (va_A (WM τ ad M) sz) := by
  refine t_met (ret := (some .int)) (Qc := gQi D (EQi (WM τ ad) MR Q)) (by decide +kernel) (Nat.le_of_ble_eq_true rfl) ?_
  intro p e s m args below meth c A ls hx hb hml hr hlk hnm hC hLS hST hA hw hl
  have hC : cx D τ s m args RX12 := hC
  have hl : lv_has ls 3 [(0, .ref (ad 1)), (1, .ref sa)] := hl
  unfold qX12_takesOf at hv
  have L2 : ∀ (X38 : Int → Mem → Prop), (∀ (v2 : Int) (M : Mem) (H : Heap) (locs : List Loc) (ls : Array Slot), MR M → X38 v2 M → wS D A s.heap (WM τ ad M) H locs → lv_has ls 3 [(0, .ref (ad 1)), (2, .int (iI v2))] → W p l e (rmk 5 0 0) s m args below meth c H locs 0 0 (MQ below (gQi D (EQi (WM τ ad) MR Q) A) args s 0 0 A) (F0 m 38 ls [])) → ∀ (n : Nat) (v2 : Int) (M : Mem) (H : Heap) (locs : List Loc) (ls : Array Slot), MR M → qX12_takesOf_L2 bs X38 Q n v2 M → wS D A s.heap (WM τ ad M) H locs → lv_has ls 3 [(0, .ref (ad 1)), (1, .ref sa), (2, .int (iI v2))] → W p l e (rmk 5 0 0) s m args below meth c H locs 0 0 (MQ below (gQi D (EQi (WM τ ad) MR Q) A) args s 0 0 A) (F0 m 2 ls []) := by
    intro X38 hX38 n
    induction n with
    | zero => intro v2 M H locs ls hM hv; rw [qX12_takesOf_L2] at hv; exact hv.elim
    | succ n ih =>
      intro v2 M H locs ls hM hv hw hl
      rw [qX12_takesOf_L2] at hv
      refine lv_iload_n hx hb dX12_takesOf_2 rfl (lv_at hl 2 rfl) ?_
      refine lv_aload_n hx hb dX12_takesOf_3 rfl (lv_at hl 1 rfl) ?_
      refine k_length (wq_M τ ad) hx hb hml hC hLS hA hw hl.1 hST ml_X12_162 (Nat.le_of_ble_eq_true rfl) (rm_ok (lev := 2) (by decide) (by decide)) ⟨Nat.zero_le _, Nat.zero_le _⟩ dX12_takesOf_4 (fun x1 H locs e1 g1 hw => ?_)
      have hv := hv x1 e1 g1
      obtain ⟨c2, hv⟩ := hv
      refine r_icmp_ge (tgt := 56) hx hb dX12_takesOf_7 (by decide) c2 g1 (fun b3 => ?_) (fun b3 => ?_)
      · have hv := hv.1 b3
        refine r_iconst hx hb dX12_takesOf_56 ?_
        exact k_iret (wq_M τ ad) hx hb hr hlk hw hM (by decide) hv dX12_takesOf_57
      · have hv := hv.2 b3
        refine lv_aload_n hx hb dX12_takesOf_10 rfl (lv_at hl 0 rfl) ?_
        refine gf_X12_139 hx hb hC hw 1 (gM_1 τ ad M) rfl dX12_takesOf_11 ?_
        refine r_top (fun x4 e4 => ?_)
        have g4 : iR x4 := by rw [e4]; exact hM.get (by decide) _
        have hv := hv x4 e4 g4
        refine lv_aload_n hx hb dX12_takesOf_14 rfl (lv_at hl 0 rfl) ?_
        refine gf_X12_151 hx hb hC hw 1 (gM_1 τ ad M) rfl dX12_takesOf_15 ?_
        refine r_top (fun x5 e5 => ?_)
        have g5 : iR x5 := by rw [e5]; exact hM.get (by decide) _
        have hv := hv x5 e5 g5
        refine r_icmp_ge (tgt := 56) hx hb dX12_takesOf_18 (by decide) g4 g5 (fun b6 => ?_) (fun b6 => ?_)
        · have hv := hv.1 b6
          refine r_iconst hx hb dX12_takesOf_56 ?_
          exact k_iret (wq_M τ ad) hx hb hr hlk hw hM (by decide) hv dX12_takesOf_57
        · have hv := hv.2 b6
          refine lv_aload_n hx hb dX12_takesOf_21 rfl (lv_at hl 1 rfl) ?_
          refine lv_iload_n hx hb dX12_takesOf_22 rfl (lv_at hl 2 rfl) ?_
          obtain ⟨c7, hv⟩ := hv
          obtain ⟨c8, hv⟩ := hv
          refine k_charAt (wq_M τ ad) hx hb hml hC hLS hA hw hl.1 hST c7 c8 ml_X12_168 (Nat.le_of_ble_eq_true rfl) (rm_ok (lev := 4) (by decide) (by decide)) ⟨Nat.zero_le _, Nat.zero_le _⟩ dX12_takesOf_23 (fun x9 H locs e9 g9 hw => ?_)
          have hv := hv x9 e9 g9
          refine lv_aload_n hx hb dX12_takesOf_26 rfl (lv_at hl 0 rfl) ?_
          refine gf_X12_37 hx hb hC hw 1 (gM_1 τ ad M) rfl dX12_takesOf_27 ?_
          refine lv_aload_n hx hb dX12_takesOf_30 rfl (lv_at hl 0 rfl) ?_
          refine gf_X12_139 hx hb hC hw 1 (gM_1 τ ad M) rfl dX12_takesOf_31 ?_
          refine r_top (fun x10 e10 => ?_)
          have g10 : iR x10 := by rw [e10]; exact hM.get (by decide) _
          have hv := hv x10 e10 g10
          obtain ⟨c11, hv⟩ := hv
          obtain ⟨c12, hv⟩ := hv
          refine r_iald hx hb hC hw 7 (gI_M aM_7 τ ad M) c11 c12 (by decide) dX12_takesOf_34 ?_
          refine r_top (fun x13 e13 => ?_)
          have g13 : iR x13 := by rw [e13]; exact hM.get aM_7.pos _
          have hv := hv x13 e13 g13
          refine r_icmp_ne (tgt := 50) hx hb dX12_takesOf_35 (by decide) g9 g13 (fun b14 => ?_) (fun b14 => ?_)
          · have hv := hv.1 b14
            refine r_iinc (v := (v2 + 1)) (lv' := [(2, .int (iI (v2 + 1))), (0, .ref (ad 1)), (1, .ref sa)]) hx hb dX12_takesOf_50 hl (k := 2) rfl rfl (by decide) rfl (fun ls hl => ?_)
            refine lv_goto (tgt := 2) hx hb dX12_takesOf_53 (by decide) ?_
            exact ih (v2 + 1) M _ _ _ hM hv hw (lv_sub hl [1, 2, 0] rfl)
          · have hv := hv.2 b14
            exact hX38 v2 M _ _ _ hM hv hw (lv_sub hl [0, 2] rfl)
  refine r_iconst hx hb dX12_takesOf_0 ?_
  refine lv_istore_n (lv' := [(2, .int (iI 0)), (0, .ref (ad 1)), (1, .ref sa)]) hx hb dX12_takesOf_1 rfl hl (by decide) rfl (fun ls hl => ?_)
  obtain ⟨n15, hv⟩ := hv
  refine L2 _ ?_ n15 0 M _ _ _ hM hv hw (lv_sub hl [1, 2, 0] rfl)
  · intro v2 M H locs ls hM hv hw hl
    refine lv_aload_n hx hb dX12_takesOf_38 rfl (lv_at hl 0 rfl) ?_
    refine lv_dup hx hb dX12_takesOf_39 rfl ?_
    refine gf_X12_139 hx hb hC hw 1 (gM_1 τ ad M) rfl dX12_takesOf_40 ?_
    refine r_top (fun x16 e16 => ?_)
    have g16 : iR x16 := by rw [e16]; exact hM.get (by decide) _
    have hv := hv x16 e16 g16
    refine r_iconst hx hb dX12_takesOf_43 ?_
    refine r_iadd (z := (x16 + 1)) hx hb dX12_takesOf_44 rfl ?_
    obtain ⟨c17, hv⟩ := hv
    obtain ⟨M18, e18⟩ : ∃ M18 : Mem, M18 = up2 M 1 15 (x16 + 1) := ⟨_, rfl⟩
    have hv := hv M18 e18
    refine pf_X12_139 (ws' := (WM τ ad M18)) hx hb hC hw 1 (gM_1 τ ad M) (Nat.le_of_ble_eq_true rfl) (by rw [e18]; exact sM_1_15 τ ad M _) dX12_takesOf_45 (fun H locs hw => ?_)
    have hM : MR M18 := by rw [e18]; exact hM.put (by decide) c17
    refine lv_iload_n hx hb dX12_takesOf_48 rfl (lv_at hl 1 rfl) ?_
    obtain ⟨c19, hv⟩ := hv
    exact k_iret (wq_M τ ad) hx hb hr hlk hw hM c19 hv dX12_takesOf_49
set_option maxHeartbeats 4000000 in
set_option maxRecDepth 100000 in
theorem mX12_avenue (l : Launch) (D : va_G) (τ : Nat → ClassId) (ad : Nat → Nat) (sA sV : Nat → Nat) (sz : Nat)   (M : Mem) (hM : MR M) (Q : Int → Mem → Prop) (hv : qX12_avenue  M Q) : Met l yX12_avenue (lw_w yX12_avenue cX12_avenue 4 (some .int)) (rmk 6 0 0) (kPc D τ sA sV (WM τ ad M) sz [.ref (ad 1)]) (gQi D (EQi (WM τ ad) MR Q) (va_A (WM τ ad M) sz)) 0 0 (va_A (WM τ ad M) sz) := by
  refine k_met (ret := (some .int)) (Qc := gQi D (EQi (WM τ ad) MR Q)) (by decide +kernel) (Nat.le_of_ble_eq_true rfl) ?_
  intro p e s m args below meth c A ls hx hb hml hr hlk hnm hC hLS hA hw hl
  have hC : cx D τ s m args RX12 := hC
  have hl : lv_has ls 4 [(0, .ref (ad 1))] := hl
  unfold qX12_avenue at hv
  have J58 : ∀ (R : Int → Int → Mem → Prop), (∀ (v1 : Int) (v2 : Int) (M : Mem) (H : Heap) (locs : List Loc) (ls : Array Slot), MR M → R v1 v2 M → wS D A s.heap (WM τ ad M) H locs → lv_has ls 4 [(0, .ref (ad 1)), (1, .int (iI v1)), (2, .int (iI v2))] → W p l e (rmk 6 0 0) s m args below meth c H locs 0 0 (MQ below (gQi D (EQi (WM τ ad) MR Q) A) args s 0 0 A) (F0 m 16 ls [])) → ∀ (X69 : Int → Mem → Prop), (∀ (v1 : Int) (M : Mem) (H : Heap) (locs : List Loc) (ls : Array Slot), MR M → X69 v1 M → wS D A s.heap (WM τ ad M) H locs → lv_has ls 4 [(0, .ref (ad 1)), (1, .int (iI v1))] → W p l e (rmk 6 0 0) s m args below meth c H locs 0 0 (MQ below (gQi D (EQi (WM τ ad) MR Q) A) args s 0 0 A) (F0 m 69 ls [])) → ∀ (v1 : Int) (v2 : Int) (t0 : Int) (t1 : Int) (M : Mem) (H : Heap) (locs : List Loc) (ls : Array Slot), MR M → qX12_avenue_J58  R X69 Q v1 v2 t0 t1 M → wS D A s.heap (WM τ ad M) H locs → lv_has ls 4 [(0, .ref (ad 1)), (1, .int (iI v1)), (2, .int (iI v2))] → W p l e (rmk 6 0 0) s m args below meth c H locs 0 0 (MQ below (gQi D (EQi (WM τ ad) MR Q) A) args s 0 0 A) (F0 m 58 ls [.int (iI t0), .int (iI t1), .ref (ad 8)]) := by
    intro R hR X69 hX69 v1 v2 t0 t1 M H locs ls hM hv hw hl
    unfold qX12_avenue_J58 at hv
    obtain ⟨c11, hv⟩ := hv
    obtain ⟨c12, hv⟩ := hv
    obtain ⟨c13, hv⟩ := hv
    obtain ⟨c14, hv⟩ := hv
    obtain ⟨M15, e15⟩ : ∃ M15 : Mem, M15 = up2 M 8 t1 t0 := ⟨_, rfl⟩
    have hv := hv M15 e15
    refine r_zast (ws' := (WM τ ad M15)) hx hb hC hw 8 (gZ_M aM_8 τ ad M) c11 c12 (by decide) c14 (by rw [e15]; exact sZ_M aM_8 τ ad M _ _) dX12_avenue_58 (fun H locs hw => ?_)
    have hM : MR M15 := by rw [e15]; exact hM.put aM_8.pos c13
    refine lv_iload_n hx hb dX12_avenue_59 rfl (lv_at hl 1 rfl) ?_
    refine lv_iload_n hx hb dX12_avenue_60 rfl (lv_at hl 2 rfl) ?_
    obtain ⟨c16, hv⟩ := hv
    refine k_cSi (wq_M τ ad) hx hb hml hC hLS hA hw hl.1 (mX12_flag l D τ ad sA sV _ v2 c16 M15 hM _ hv) kX12_flag ml_X12_154 rfl rfl (Nat.le_of_ble_eq_true rfl) (rm_ok (by decide) (by decide)) ⟨Nat.zero_le _, Nat.zero_le _⟩ dX12_avenue_61 (fun x17 M17 H locs g17 hM hv hw => ?_)
    have hv := hv g17
    refine r_iadd (z := (v1 + x17)) hx hb dX12_avenue_64 rfl ?_
    refine lv_istore_n (lv' := [(1, .int (iI (v1 + x17))), (0, .ref (ad 1)), (2, .int (iI v2))]) hx hb dX12_avenue_65 rfl hl (by decide) rfl (fun ls hl => ?_)
    refine lv_goto (tgt := 16) hx hb dX12_avenue_66 (by decide) ?_
    exact hR (v1 + x17) v2 M17 _ _ _ hM hv hw (lv_sub hl [1, 0, 2] rfl)
  have J42 : ∀ (R : Int → Int → Mem → Prop), (∀ (v1 : Int) (v2 : Int) (M : Mem) (H : Heap) (locs : List Loc) (ls : Array Slot), MR M → R v1 v2 M → wS D A s.heap (WM τ ad M) H locs → lv_has ls 4 [(0, .ref (ad 1)), (1, .int (iI v1)), (2, .int (iI v2))] → W p l e (rmk 6 0 0) s m args below meth c H locs 0 0 (MQ below (gQi D (EQi (WM τ ad) MR Q) A) args s 0 0 A) (F0 m 16 ls [])) → ∀ (X69 : Int → Mem → Prop), (∀ (v1 : Int) (M : Mem) (H : Heap) (locs : List Loc) (ls : Array Slot), MR M → X69 v1 M → wS D A s.heap (WM τ ad M) H locs → lv_has ls 4 [(0, .ref (ad 1)), (1, .int (iI v1))] → W p l e (rmk 6 0 0) s m args below meth c H locs 0 0 (MQ below (gQi D (EQi (WM τ ad) MR Q) A) args s 0 0 A) (F0 m 69 ls [])) → ∀ (v1 : Int) (v3 : Int) (t0 : Int) (M : Mem) (H : Heap) (locs : List Loc) (ls : Array Slot), MR M → qX12_avenue_J42  R X69 Q v1 v3 t0 M → wS D A s.heap (WM τ ad M) H locs → lv_has ls 4 [(0, .ref (ad 1)), (1, .int (iI v1)), (3, .int (iI v3))] → W p l e (rmk 6 0 0) s m args below meth c H locs 0 0 (MQ below (gQi D (EQi (WM τ ad) MR Q) A) args s 0 0 A) (F0 m 42 ls [.int (iI t0)]) := by
    intro R hR X69 hX69 v1 v3 t0 M H locs ls hM hv hw hl
    unfold qX12_avenue_J42 at hv
    refine lv_istore_n (lv' := [(2, .int (iI t0)), (0, .ref (ad 1)), (1, .int (iI v1)), (3, .int (iI v3))]) hx hb dX12_avenue_42 rfl hl (by decide) rfl (fun ls hl => ?_)
    refine lv_aload_n hx hb dX12_avenue_43 rfl (lv_at hl 1 rfl) ?_
    refine gf_X12_40 hx hb hC hw 1 (gM_1 τ ad M) rfl dX12_avenue_44 ?_
    refine lv_iload_n hx hb dX12_avenue_47 rfl (lv_at hl 2 rfl) ?_
    refine lv_iload_n hx hb dX12_avenue_48 rfl (lv_at hl 3 rfl) ?_
    refine r_iconst hx hb dX12_avenue_49 ?_
    obtain ⟨c9, hv⟩ := hv
    refine r_icmp_ne (tgt := 57) hx hb dX12_avenue_50 (by decide) c9 (by decide) (fun b10 => ?_) (fun b10 => ?_)
    · have hv := hv.1 b10
      refine r_iconst hx hb dX12_avenue_57 ?_
      exact J58 _ hR _ hX69 v1 t0 0 v1 M _ _ _ hM hv hw (lv_sub hl [1, 2, 0] rfl)
    · have hv := hv.2 b10
      refine r_iconst hx hb dX12_avenue_53 ?_
      refine lv_goto (tgt := 58) hx hb dX12_avenue_54 (by decide) ?_
      exact J58 _ hR _ hX69 v1 t0 1 v1 M _ _ _ hM hv hw (lv_sub hl [1, 2, 0] rfl)
  have L16 : ∀ (X69 : Int → Mem → Prop), (∀ (v1 : Int) (M : Mem) (H : Heap) (locs : List Loc) (ls : Array Slot), MR M → X69 v1 M → wS D A s.heap (WM τ ad M) H locs → lv_has ls 4 [(0, .ref (ad 1)), (1, .int (iI v1))] → W p l e (rmk 6 0 0) s m args below meth c H locs 0 0 (MQ below (gQi D (EQi (WM τ ad) MR Q) A) args s 0 0 A) (F0 m 69 ls [])) → ∀ (n : Nat) (v1 : Int) (v2 : Int) (M : Mem) (H : Heap) (locs : List Loc) (ls : Array Slot), MR M → qX12_avenue_L16  X69 Q n v1 v2 M → wS D A s.heap (WM τ ad M) H locs → lv_has ls 4 [(0, .ref (ad 1)), (1, .int (iI v1)), (2, .int (iI v2))] → W p l e (rmk 6 0 0) s m args below meth c H locs 0 0 (MQ below (gQi D (EQi (WM τ ad) MR Q) A) args s 0 0 A) (F0 m 16 ls []) := by
    intro X69 hX69 n
    induction n with
    | zero => intro v1 v2 M H locs ls hM hv; rw [qX12_avenue_L16] at hv; exact hv.elim
    | succ n ih =>
      intro v1 v2 M H locs ls hM hv hw hl
      rw [qX12_avenue_L16] at hv
      refine lv_iload_n hx hb dX12_avenue_16 rfl (lv_at hl 2 rfl) ?_
      obtain ⟨c3, hv⟩ := hv
      refine r_if_eq (tgt := 69) hx hb dX12_avenue_17 (by decide) c3  (fun b4 => ?_) (fun b4 => ?_)
      · have hv := hv.1 b4
        exact hX69 v1 M _ _ _ hM hv hw (lv_sub hl [0, 1] rfl)
      · have hv := hv.2 b4
        refine lv_iload_n hx hb dX12_avenue_20 rfl (lv_at hl 1 rfl) ?_
        refine r_bipush hx hb dX12_avenue_21 (by decide +kernel) ?_
        obtain ⟨c5, hv⟩ := hv
        refine r_icmp_ge (tgt := 69) hx hb dX12_avenue_23 (by decide) c5 (by decide) (fun b6 => ?_) (fun b6 => ?_)
        · have hv := hv.1 b6
          exact hX69 v1 M _ _ _ hM hv hw (lv_sub hl [0, 1] rfl)
        · have hv := hv.2 b6
          refine lv_aload_n hx hb dX12_avenue_26 rfl (lv_at hl 0 rfl) ?_
          refine va_ldcS hx hb hC.2.1 (hLS.str_1) dX12_avenue_27 ?_
          refine k_tcVi (wq_M τ ad) hx hb hml hC hLS hA hw hl.1 (hLS.1 1 (by decide)).2 (mX12_takesOf l D τ ad sA sV _ (sA 1) (sV 1) (bS 1) M hM _ hv) kX12_takesOf ml_X12_182 rfl (gM_1 τ ad M) rfl rfl (Nat.le_of_ble_eq_true rfl) (rm_ok (by decide) (by decide)) ⟨Nat.zero_le _, Nat.zero_le _⟩ dX12_avenue_29 (fun x7 M7 H locs g7 hM hv hw => ?_)
          have hv := hv g7
          refine lv_istore_n (lv' := [(3, .int (iI x7)), (0, .ref (ad 1)), (1, .int (iI v1)), (2, .int (iI v2))]) hx hb dX12_avenue_32 rfl hl (by decide) rfl (fun ls hl => ?_)
          refine lv_iload_n hx hb dX12_avenue_33 rfl (lv_at hl 0 rfl) ?_
          refine r_if_lt (tgt := 41) hx hb dX12_avenue_34 (by decide) g7  (fun b8 => ?_) (fun b8 => ?_)
          · have hv := hv.1 b8
            refine r_iconst hx hb dX12_avenue_41 ?_
            exact J42 _ ih _ hX69 v1 x7 0 M7 _ _ _ hM hv hw (lv_sub hl [1, 2, 0] rfl)
          · have hv := hv.2 b8
            refine r_iconst hx hb dX12_avenue_37 ?_
            refine lv_goto (tgt := 42) hx hb dX12_avenue_38 (by decide) ?_
            exact J42 _ ih _ hX69 v1 x7 1 M7 _ _ _ hM hv hw (lv_sub hl [1, 2, 0] rfl)
  have L99 : ∀ (X122 : Int → Mem → Prop), (∀ (v1 : Int) (M : Mem) (H : Heap) (locs : List Loc) (ls : Array Slot), MR M → X122 v1 M → wS D A s.heap (WM τ ad M) H locs → lv_has ls 4 [(0, .ref (ad 1)), (1, .int (iI v1))] → W p l e (rmk 6 0 0) s m args below meth c H locs 0 0 (MQ below (gQi D (EQi (WM τ ad) MR Q) A) args s 0 0 A) (F0 m 122 ls [])) → ∀ (n : Nat) (v1 : Int) (v3 : Int) (M : Mem) (H : Heap) (locs : List Loc) (ls : Array Slot), MR M → qX12_avenue_L99  X122 Q n v1 v3 M → wS D A s.heap (WM τ ad M) H locs → lv_has ls 4 [(0, .ref (ad 1)), (1, .int (iI v1)), (3, .int (iI v3))] → W p l e (rmk 6 0 0) s m args below meth c H locs 0 0 (MQ below (gQi D (EQi (WM τ ad) MR Q) A) args s 0 0 A) (F0 m 99 ls []) := by
    intro X122 hX122 n
    induction n with
    | zero => intro v1 v3 M H locs ls hM hv; rw [qX12_avenue_L99] at hv; exact hv.elim
    | succ n ih =>
      intro v1 v3 M H locs ls hM hv hw hl
      rw [qX12_avenue_L99] at hv
      refine lv_iload_n hx hb dX12_avenue_99 rfl (lv_at hl 2 rfl) ?_
      refine lv_iload_n hx hb dX12_avenue_100 rfl (lv_at hl 1 rfl) ?_
      obtain ⟨c27, hv⟩ := hv
      obtain ⟨c28, hv⟩ := hv
      refine r_icmp_ge (tgt := 122) hx hb dX12_avenue_101 (by decide) c27 c28 (fun b29 => ?_) (fun b29 => ?_)
      · have hv := hv.1 b29
        exact hX122 v1 M _ _ _ hM hv hw (lv_sub hl [0, 1] rfl)
      · have hv := hv.2 b29
        refine lv_aload_n hx hb dX12_avenue_104 rfl (lv_at hl 0 rfl) ?_
        refine gf_X12_20 hx hb hC hw 1 (gM_1 τ ad M) rfl dX12_avenue_105 ?_
        refine lv_iload_n hx hb dX12_avenue_108 rfl (lv_at hl 2 rfl) ?_
        refine lv_aload_n hx hb dX12_avenue_109 rfl (lv_at hl 0 rfl) ?_
        refine gf_X12_40 hx hb hC hw 1 (gM_1 τ ad M) rfl dX12_avenue_110 ?_
        refine lv_iload_n hx hb dX12_avenue_113 rfl (lv_at hl 2 rfl) ?_
        obtain ⟨c30, hv⟩ := hv
        obtain ⟨c31, hv⟩ := hv
        refine r_zald hx hb hC hw 8 (gZ_M aM_8 τ ad M) c30 c31 (by decide) dX12_avenue_114 ?_
        refine r_top (fun x32 e32 => ?_)
        have g32 : iR x32 := by rw [e32]; exact hM.get aM_8.pos _
        have hv := hv x32 e32 g32
        obtain ⟨c33, hv⟩ := hv
        obtain ⟨M34, e34⟩ : ∃ M34 : Mem, M34 = up2 M 2 v3 x32 := ⟨_, rfl⟩
        have hv := hv M34 e34
        refine r_zast (ws' := (WM τ ad M34)) hx hb hC hw 2 (gZ_M aM_2 τ ad M) c30 c31 (by decide) c33 (by rw [e34]; exact sZ_M aM_2 τ ad M _ _) dX12_avenue_115 (fun H locs hw => ?_)
        have hM : MR M34 := by rw [e34]; exact hM.put aM_2.pos g32
        refine r_iinc (v := (v3 + 1)) (lv' := [(3, .int (iI (v3 + 1))), (0, .ref (ad 1)), (1, .int (iI v1))]) hx hb dX12_avenue_116 hl (k := 2) rfl rfl (by decide) rfl (fun ls hl => ?_)
        refine lv_goto (tgt := 99) hx hb dX12_avenue_119 (by decide) ?_
        exact ih v1 (v3 + 1) M34 _ _ _ hM hv hw (lv_sub hl [1, 2, 0] rfl)
  have L155 : ∀ (n : Nat) (v1 : Int) (v3 : Int) (M : Mem) (H : Heap) (locs : List Loc) (ls : Array Slot), MR M → qX12_avenue_L155   Q n v1 v3 M → wS D A s.heap (WM τ ad M) H locs → lv_has ls 4 [(0, .ref (ad 1)), (1, .int (iI v1)), (3, .int (iI v3))] → W p l e (rmk 6 0 0) s m args below meth c H locs 0 0 (MQ below (gQi D (EQi (WM τ ad) MR Q) A) args s 0 0 A) (F0 m 155 ls []) := by
    intro n
    induction n with
    | zero => intro v1 v3 M H locs ls hM hv; rw [qX12_avenue_L155] at hv; exact hv.elim
    | succ n ih =>
      intro v1 v3 M H locs ls hM hv hw hl
      rw [qX12_avenue_L155] at hv
      refine lv_iload_n hx hb dX12_avenue_155 rfl (lv_at hl 2 rfl) ?_
      refine r_iconst hx hb dX12_avenue_156 ?_
      obtain ⟨c41, hv⟩ := hv
      refine r_icmp_ge (tgt := 173) hx hb dX12_avenue_157 (by decide) c41 (by decide) (fun b42 => ?_) (fun b42 => ?_)
      · have hv := hv.1 b42
        refine lv_iload_n hx hb dX12_avenue_173 rfl (lv_at hl 1 rfl) ?_
        obtain ⟨c43, hv⟩ := hv
        exact k_iret (wq_M τ ad) hx hb hr hlk hw hM c43 hv dX12_avenue_174
      · have hv := hv.2 b42
        refine lv_aload_n hx hb dX12_avenue_160 rfl (lv_at hl 0 rfl) ?_
        refine gf_X12_103 hx hb hC hw 1 (gM_1 τ ad M) rfl dX12_avenue_161 ?_
        refine lv_iload_n hx hb dX12_avenue_164 rfl (lv_at hl 2 rfl) ?_
        refine r_iconst hx hb dX12_avenue_165 ?_
        obtain ⟨c44, hv⟩ := hv
        obtain ⟨c45, hv⟩ := hv
        obtain ⟨M46, e46⟩ : ∃ M46 : Mem, M46 = up2 M 29 v3 0 := ⟨_, rfl⟩
        have hv := hv M46 e46
        refine r_zast (ws' := (WM τ ad M46)) hx hb hC hw 29 (gZ_M aM_29 τ ad M) c44 c45 (by decide) (by decide) (by rw [e46]; exact sZ_M aM_29 τ ad M _ _) dX12_avenue_166 (fun H locs hw => ?_)
        have hM : MR M46 := by rw [e46]; exact hM.put aM_29.pos (by decide)
        refine r_iinc (v := (v3 + 1)) (lv' := [(3, .int (iI (v3 + 1))), (0, .ref (ad 1)), (1, .int (iI v1))]) hx hb dX12_avenue_167 hl (k := 2) rfl rfl (by decide) rfl (fun ls hl => ?_)
        refine lv_goto (tgt := 155) hx hb dX12_avenue_170 (by decide) ?_
        exact ih v1 (v3 + 1) M46 _ _ _ hM hv hw (lv_sub hl [1, 2, 0] rfl)
  have J69 : ∀ (v1 : Int) (M : Mem) (H : Heap) (locs : List Loc) (ls : Array Slot), MR M → qX12_avenue_J69  Q v1 M → wS D A s.heap (WM τ ad M) H locs → lv_has ls 4 [(0, .ref (ad 1)), (1, .int (iI v1))] → W p l e (rmk 6 0 0) s m args below meth c H locs 0 0 (MQ below (gQi D (EQi (WM τ ad) MR Q) A) args s 0 0 A) (F0 m 69 ls []) := by
    intro v1 M H locs ls hM hv hw hl
    unfold qX12_avenue_J69 at hv
    refine lv_iload_n hx hb dX12_avenue_69 rfl (lv_at hl 1 rfl) ?_
    refine r_iconst hx hb dX12_avenue_70 ?_
    obtain ⟨c19, hv⟩ := hv
    refine r_icmp_lt (tgt := 85) hx hb dX12_avenue_71 (by decide) c19 (by decide) (fun b20 => ?_) (fun b20 => ?_)
    · have hv := hv.1 b20
      refine r_iconst hx hb dX12_avenue_85 ?_
      refine lv_aload_n hx hb dX12_avenue_86 rfl (lv_at hl 0 rfl) ?_
      refine gf_X12_139 hx hb hC hw 1 (gM_1 τ ad M) rfl dX12_avenue_87 ?_
      refine r_top (fun x21 e21 => ?_)
      have g21 : iR x21 := by rw [e21]; exact hM.get (by decide) _
      have hv := hv x21 e21 g21
      refine r_isub (z := ((-1) - x21)) hx hb dX12_avenue_90 rfl ?_
      obtain ⟨c22, hv⟩ := hv
      exact k_iret (wq_M τ ad) hx hb hr hlk hw hM c22 hv dX12_avenue_91
    · have hv := hv.2 b20
      refine lv_aload_n hx hb dX12_avenue_74 rfl (lv_at hl 0 rfl) ?_
      refine gf_X12_139 hx hb hC hw 1 (gM_1 τ ad M) rfl dX12_avenue_75 ?_
      refine r_top (fun x23 e23 => ?_)
      have g23 : iR x23 := by rw [e23]; exact hM.get (by decide) _
      have hv := hv x23 e23 g23
      refine lv_aload_n hx hb dX12_avenue_78 rfl (lv_at hl 0 rfl) ?_
      refine gf_X12_151 hx hb hC hw 1 (gM_1 τ ad M) rfl dX12_avenue_79 ?_
      refine r_top (fun x24 e24 => ?_)
      have g24 : iR x24 := by rw [e24]; exact hM.get (by decide) _
      have hv := hv x24 e24 g24
      refine r_icmp_ge (tgt := 92) hx hb dX12_avenue_82 (by decide) g23 g24 (fun b25 => ?_) (fun b25 => ?_)
      · have hv := hv.1 b25
        refine lv_aload_n hx hb dX12_avenue_92 rfl (lv_at hl 0 rfl) ?_
        refine lv_iload_n hx hb dX12_avenue_93 rfl (lv_at hl 1 rfl) ?_
        obtain ⟨M26, e26⟩ : ∃ M26 : Mem, M26 = up2 M 1 3 v1 := ⟨_, rfl⟩
        have hv := hv M26 e26
        refine pf_X12_13 (ws' := (WM τ ad M26)) hx hb hC hw 1 (gM_1 τ ad M) (Nat.le_of_ble_eq_true rfl) (by rw [e26]; exact sM_1_3 τ ad M _) dX12_avenue_94 (fun H locs hw => ?_)
        have hM : MR M26 := by rw [e26]; exact hM.put (by decide) c19
        refine r_iconst hx hb dX12_avenue_97 ?_
        refine lv_istore_n (lv' := [(3, .int (iI 0)), (0, .ref (ad 1)), (1, .int (iI v1))]) hx hb dX12_avenue_98 rfl hl (by decide) rfl (fun ls hl => ?_)
        obtain ⟨n35, hv⟩ := hv
        refine L99 _ ?_ n35 v1 0 M26 _ _ _ hM hv hw (lv_sub hl [1, 2, 0] rfl)
        · intro v1 M H locs ls hM hv hw hl
          refine lv_aload_n hx hb dX12_avenue_122 rfl (lv_at hl 0 rfl) ?_
          refine r_iconst hx hb dX12_avenue_123 ?_
          obtain ⟨M36, e36⟩ : ∃ M36 : Mem, M36 = up2 M 1 4 0 := ⟨_, rfl⟩
          have hv := hv M36 e36
          refine pf_X12_122 (ws' := (WM τ ad M36)) hx hb hC hw 1 (gM_1 τ ad M) (Nat.le_of_ble_eq_true rfl) (by rw [e36]; exact sM_1_4 τ ad M _) dX12_avenue_124 (fun H locs hw => ?_)
          have hM : MR M36 := by rw [e36]; exact hM.put (by decide) (by decide)
          refine lv_aload_n hx hb dX12_avenue_127 rfl (lv_at hl 0 rfl) ?_
          refine r_iconst hx hb dX12_avenue_128 ?_
          obtain ⟨M37, e37⟩ : ∃ M37 : Mem, M37 = up2 M36 1 5 0 := ⟨_, rfl⟩
          have hv := hv M37 e37
          refine pf_X12_129 (ws' := (WM τ ad M37)) hx hb hC hw 1 (gM_1 τ ad M36) (Nat.le_of_ble_eq_true rfl) (by rw [e37]; exact sM_1_5 τ ad M36 _) dX12_avenue_129 (fun H locs hw => ?_)
          have hM : MR M37 := by rw [e37]; exact hM.put (by decide) (by decide)
          refine lv_aload_n hx hb dX12_avenue_132 rfl (lv_at hl 0 rfl) ?_
          refine gf_X12_31 hx hb hC hw 1 (gM_1 τ ad M37) rfl dX12_avenue_133 ?_
          refine r_bipush hx hb dX12_avenue_136 (by decide +kernel) ?_
          refine r_iconst hx hb dX12_avenue_138 ?_
          obtain ⟨M38, e38⟩ : ∃ M38 : Mem, M38 = up2 M37 5 12 0 := ⟨_, rfl⟩
          have hv := hv M38 e38
          refine r_iast (ws' := (WM τ ad M38)) hx hb hC hw 5 (gI_M aM_5 τ ad M37) (by decide) (by decide) (by decide) (by rw [e38]; exact sI_M aM_5 τ ad M37 _ _) dX12_avenue_139 (fun H locs hw => ?_)
          have hM : MR M38 := by rw [e38]; exact hM.put aM_5.pos (by decide)
          refine lv_aload_n hx hb dX12_avenue_140 rfl (lv_at hl 0 rfl) ?_
          refine gf_X12_31 hx hb hC hw 1 (gM_1 τ ad M38) rfl dX12_avenue_141 ?_
          refine r_bipush hx hb dX12_avenue_144 (by decide +kernel) ?_
          refine r_iconst hx hb dX12_avenue_146 ?_
          obtain ⟨M39, e39⟩ : ∃ M39 : Mem, M39 = up2 M38 5 37 0 := ⟨_, rfl⟩
          have hv := hv M39 e39
          refine r_iast (ws' := (WM τ ad M39)) hx hb hC hw 5 (gI_M aM_5 τ ad M38) (by decide) (by decide) (by decide) (by rw [e39]; exact sI_M aM_5 τ ad M38 _ _) dX12_avenue_147 (fun H locs hw => ?_)
          have hM : MR M39 := by rw [e39]; exact hM.put aM_5.pos (by decide)
          refine lv_aload_n hx hb dX12_avenue_148 rfl (lv_at hl 0 rfl) ?_
          refine r_iconst hx hb dX12_avenue_149 ?_
          obtain ⟨M40, e40⟩ : ∃ M40 : Mem, M40 = up2 M39 1 28 0 := ⟨_, rfl⟩
          have hv := hv M40 e40
          refine pf_X12_186 (ws' := (WM τ ad M40)) hx hb hC hw 1 (gM_1 τ ad M39) (Nat.le_of_ble_eq_true rfl) (by rw [e40]; exact sM_1_28 τ ad M39 _) dX12_avenue_150 (fun H locs hw => ?_)
          have hM : MR M40 := by rw [e40]; exact hM.put (by decide) (by decide)
          refine r_iconst hx hb dX12_avenue_153 ?_
          refine lv_istore_n (lv' := [(3, .int (iI 0)), (0, .ref (ad 1)), (1, .int (iI v1))]) hx hb dX12_avenue_154 rfl hl (by decide) rfl (fun ls hl => ?_)
          obtain ⟨n47, hv⟩ := hv
          refine L155  n47 v1 0 M40 _ _ _ hM hv hw (lv_sub hl [1, 2, 0] rfl)
      · have hv := hv.2 b25
        refine r_iconst hx hb dX12_avenue_85 ?_
        refine lv_aload_n hx hb dX12_avenue_86 rfl (lv_at hl 0 rfl) ?_
        refine gf_X12_139 hx hb hC hw 1 (gM_1 τ ad M) rfl dX12_avenue_87 ?_
        refine r_top (fun x48 e48 => ?_)
        have g48 : iR x48 := by rw [e48]; exact hM.get (by decide) _
        have hv := hv x48 e48 g48
        refine r_isub (z := ((-1) - x48)) hx hb dX12_avenue_90 rfl ?_
        obtain ⟨c49, hv⟩ := hv
        exact k_iret (wq_M τ ad) hx hb hr hlk hw hM c49 hv dX12_avenue_91
  refine lv_aload_n hx hb dX12_avenue_0 rfl (lv_at hl 0 rfl) ?_
  refine r_iconst hx hb dX12_avenue_1 ?_
  obtain ⟨M1, e1⟩ : ∃ M1 : Mem, M1 = up2 M 1 0 0 := ⟨_, rfl⟩
  have hv := hv M1 e1
  refine pf_X12_112 (ws' := (WM τ ad M1)) hx hb hC hw 1 (gM_1 τ ad M) (Nat.le_of_ble_eq_true rfl) (by rw [e1]; exact sM_1_0 τ ad M _) dX12_avenue_2 (fun H locs hw => ?_)
  have hM : MR M1 := by rw [e1]; exact hM.put (by decide) (by decide)
  refine lv_aload_n hx hb dX12_avenue_5 rfl (lv_at hl 0 rfl) ?_
  refine r_bipush hx hb dX12_avenue_6 (by decide +kernel) ?_
  refine k_cVi (wq_M τ ad) hx hb hml hC hLS hA hw hl.1 (mX12_begins l D τ ad sA sV _ 80 (by decide) M1 hM _ hv) kX12_begins ml_X12_176 rfl (gM_1 τ ad M1) rfl rfl (Nat.le_of_ble_eq_true rfl) (rm_ok (by decide) (by decide)) ⟨Nat.zero_le _, Nat.zero_le _⟩ dX12_avenue_8 (fun x2 M2 H locs g2 hM hv hw => ?_)
  have hv := hv g2
  refine lv_pop hx hb dX12_avenue_11 rfl ?_
  refine r_iconst hx hb dX12_avenue_12 ?_
  refine lv_istore_n (lv' := [(1, .int (iI 0)), (0, .ref (ad 1))]) hx hb dX12_avenue_13 rfl hl (by decide) rfl (fun ls hl => ?_)
  refine r_iconst hx hb dX12_avenue_14 ?_
  refine lv_istore_n (lv' := [(2, .int (iI 1)), (1, .int (iI 0)), (0, .ref (ad 1))]) hx hb dX12_avenue_15 rfl hl (by decide) rfl (fun ls hl => ?_)
  obtain ⟨n18, hv⟩ := hv
  refine L16 _ ?_ n18 0 1 M2 _ _ _ hM hv hw (lv_sub hl [2, 1, 0] rfl)
  · intro v1 M H locs ls hM hv hw hl
    exact J69 v1 M _ _ _ hM hv hw (lv_sub hl [0, 1] rfl)
set_option maxHeartbeats 4000000 in
set_option maxRecDepth 100000 in
theorem mX12_faultOf (l : Launch) (D : va_G) (τ : Nat → ClassId) (ad : Nat → Nat) (sA sV : Nat → Nat) (sz : Nat) (p1 : Int) (p2 : Int) (p3 : Int) (hp1 : iR p1) (hp2 : iR p2) (hp3 : iR p3) (M : Mem) (hM : MR M) (Q : Int → Mem → Prop) (hv : qX12_faultOf p1 p2 p3 M Q) : Met l yX12_faultOf (lw_w yX12_faultOf cX12_faultOf 5 (some .int)) (rmk 1 0 0) (kPc D τ sA sV (WM τ ad M) sz [.ref (ad 1), .int (iI p1), .int (iI p2), .int (iI p3)]) (gQi D (EQi (WM τ ad) MR Q) (va_A (WM τ ad M) sz)) 0 0 (va_A (WM τ ad M) sz) := by
  refine k_met (ret := (some .int)) (Qc := gQi D (EQi (WM τ ad) MR Q)) (by decide +kernel) (Nat.le_of_ble_eq_true rfl) ?_
  intro p e s m args below meth c A ls hx hb hml hr hlk hnm hC hLS hA hw hl
  have hC : cx D τ s m args RX12 := hC
  have hl : lv_has ls 5 [(0, .ref (ad 1)), (1, .int (iI p1)), (2, .int (iI p2)), (3, .int (iI p3))] := hl
  unfold qX12_faultOf at hv
  have J44 : ∀ (v4 : Int) (M : Mem) (H : Heap) (locs : List Loc) (ls : Array Slot), MR M → qX12_faultOf_J44 p1 p2 p3 Q v4 M → wS D A s.heap (WM τ ad M) H locs → lv_has ls 5 [(0, .ref (ad 1)), (4, .int (iI v4))] → W p l e (rmk 1 0 0) s m args below meth c H locs 0 0 (MQ below (gQi D (EQi (WM τ ad) MR Q) A) args s 0 0 A) (F0 m 44 ls []) := by
    intro v4 M H locs ls hM hv hw hl
    unfold qX12_faultOf_J44 at hv
    refine lv_iload hx hb dX12_faultOf_44 (lv_at hl 1 rfl) ?_
    obtain ⟨c3, hv⟩ := hv
    refine r_if_eq (tgt := 53) hx hb dX12_faultOf_46 (by decide) c3  (fun b4 => ?_) (fun b4 => ?_)
    · have hv := hv.1 b4
      refine r_iconst hx hb dX12_faultOf_53 ?_
      refine lv_aload_n hx hb dX12_faultOf_54 rfl (lv_at hl 0 rfl) ?_
      refine gf_X12_139 hx hb hC hw 1 (gM_1 τ ad M) rfl dX12_faultOf_55 ?_
      refine r_top (fun x5 e5 => ?_)
      have g5 : iR x5 := by rw [e5]; exact hM.get (by decide) _
      have hv := hv x5 e5 g5
      refine r_isub (z := ((-1) - x5)) hx hb dX12_faultOf_58 rfl ?_
      obtain ⟨c6, hv⟩ := hv
      exact k_iret (wq_M τ ad) hx hb hr hlk hw hM c6 hv dX12_faultOf_59
    · have hv := hv.2 b4
      refine r_iconst hx hb dX12_faultOf_49 ?_
      refine lv_goto (tgt := 59) hx hb dX12_faultOf_50 (by decide) ?_
      exact k_iret (wq_M τ ad) hx hb hr hlk hw hM (by decide) hv dX12_faultOf_59
  have J20 : ∀ (t0 : Int) (M : Mem) (H : Heap) (locs : List Loc) (ls : Array Slot), MR M → qX12_faultOf_J20 p1 p2 p3 Q t0 M → wS D A s.heap (WM τ ad M) H locs → lv_has ls 5 [(0, .ref (ad 1)), (1, .int (iI p1)), (2, .int (iI p2))] → W p l e (rmk 1 0 0) s m args below meth c H locs 0 0 (MQ below (gQi D (EQi (WM τ ad) MR Q) A) args s 0 0 A) (F0 m 20 ls [.int (iI t0)]) := by
    intro t0 M H locs ls hM hv hw hl
    unfold qX12_faultOf_J20 at hv
    refine lv_istore (lv' := [(4, .int (iI t0)), (0, .ref (ad 1)), (1, .int (iI p1)), (2, .int (iI p2))]) hx hb dX12_faultOf_20 hl (by decide) rfl (fun ls hl => ?_)
    refine lv_iload_n hx hb dX12_faultOf_22 rfl (lv_at hl 2 rfl) ?_
    refine lv_iload_n hx hb dX12_faultOf_23 rfl (lv_at hl 3 rfl) ?_
    refine r_icmp_le (tgt := 44) hx hb dX12_faultOf_24 (by decide) hp1 hp2 (fun b2 => ?_) (fun b2 => ?_)
    · have hv := hv.1 b2
      exact J44 t0 M _ _ _ hM hv hw (lv_sub hl [1, 0] rfl)
    · have hv := hv.2 b2
      refine lv_iload hx hb dX12_faultOf_27 (lv_at hl 0 rfl) ?_
      obtain ⟨c7, hv⟩ := hv
      refine r_if_ne (tgt := 40) hx hb dX12_faultOf_29 (by decide) c7  (fun b8 => ?_) (fun b8 => ?_)
      · have hv := hv.1 b8
        refine r_iconst hx hb dX12_faultOf_40 ?_
        refine lv_iload_n hx hb dX12_faultOf_41 rfl (lv_at hl 3 rfl) ?_
        refine r_isub (z := ((-1) - p2)) hx hb dX12_faultOf_42 rfl ?_
        obtain ⟨c9, hv⟩ := hv
        exact k_iret (wq_M τ ad) hx hb hr hlk hw hM c9 hv dX12_faultOf_43
      · have hv := hv.2 b8
        refine lv_aload_n hx hb dX12_faultOf_32 rfl (lv_at hl 1 rfl) ?_
        refine gf_X12_139 hx hb hC hw 1 (gM_1 τ ad M) rfl dX12_faultOf_33 ?_
        refine r_top (fun x10 e10 => ?_)
        have g10 : iR x10 := by rw [e10]; exact hM.get (by decide) _
        have hv := hv x10 e10 g10
        refine lv_iload_n hx hb dX12_faultOf_36 rfl (lv_at hl 3 rfl) ?_
        refine r_icmp_lt (tgt := 44) hx hb dX12_faultOf_37 (by decide) g10 hp2 (fun b11 => ?_) (fun b11 => ?_)
        · have hv := hv.1 b11
          exact J44 t0 M _ _ _ hM hv hw (lv_sub hl [1, 0] rfl)
        · have hv := hv.2 b11
          refine r_iconst hx hb dX12_faultOf_40 ?_
          refine lv_iload_n hx hb dX12_faultOf_41 rfl (lv_at hl 3 rfl) ?_
          refine r_isub (z := ((-1) - p2)) hx hb dX12_faultOf_42 rfl ?_
          obtain ⟨c12, hv⟩ := hv
          exact k_iret (wq_M τ ad) hx hb hr hlk hw hM c12 hv dX12_faultOf_43
  have J19 : ∀  (M : Mem) (H : Heap) (locs : List Loc) (ls : Array Slot), MR M → qX12_faultOf_J19 p1 p2 p3 Q  M → wS D A s.heap (WM τ ad M) H locs → lv_has ls 5 [(0, .ref (ad 1)), (1, .int (iI p1)), (2, .int (iI p2))] → W p l e (rmk 1 0 0) s m args below meth c H locs 0 0 (MQ below (gQi D (EQi (WM τ ad) MR Q) A) args s 0 0 A) (F0 m 19 ls []) := by
    intro  M H locs ls hM hv hw hl
    unfold qX12_faultOf_J19 at hv
    refine r_iconst hx hb dX12_faultOf_19 ?_
    exact J20 0 M _ _ _ hM hv hw (lv_sub hl [0, 1, 2] rfl)
  refine lv_iload_n hx hb dX12_faultOf_0 rfl (lv_at hl 3 rfl) ?_
  refine r_if_eq (tgt := 19) hx hb dX12_faultOf_1 (by decide) hp3  (fun b1 => ?_) (fun b1 => ?_)
  · have hv := hv.1 b1
    exact J19  M _ _ _ hM hv hw (lv_sub hl [0, 1, 2] rfl)
  · have hv := hv.2 b1
    refine lv_aload_n hx hb dX12_faultOf_4 rfl (lv_at hl 0 rfl) ?_
    refine gf_X12_139 hx hb hC hw 1 (gM_1 τ ad M) rfl dX12_faultOf_5 ?_
    refine r_top (fun x13 e13 => ?_)
    have g13 : iR x13 := by rw [e13]; exact hM.get (by decide) _
    have hv := hv x13 e13 g13
    refine lv_aload_n hx hb dX12_faultOf_8 rfl (lv_at hl 0 rfl) ?_
    refine gf_X12_151 hx hb hC hw 1 (gM_1 τ ad M) rfl dX12_faultOf_9 ?_
    refine r_top (fun x14 e14 => ?_)
    have g14 : iR x14 := by rw [e14]; exact hM.get (by decide) _
    have hv := hv x14 e14 g14
    refine r_icmp_ne (tgt := 19) hx hb dX12_faultOf_12 (by decide) g13 g14 (fun b15 => ?_) (fun b15 => ?_)
    · have hv := hv.1 b15
      exact J19  M _ _ _ hM hv hw (lv_sub hl [0, 1, 2] rfl)
    · have hv := hv.2 b15
      refine r_iconst hx hb dX12_faultOf_15 ?_
      refine lv_goto (tgt := 20) hx hb dX12_faultOf_16 (by decide) ?_
      exact J20 1 M _ _ _ hM hv hw (lv_sub hl [0, 1, 2] rfl)
set_option maxHeartbeats 4000000 in
set_option maxRecDepth 100000 in
theorem mX12_isNew (l : Launch) (D : va_G) (τ : Nat → ClassId) (ad : Nat → Nat) (sA sV : Nat → Nat) (sz : Nat)   (M : Mem) (hM : MR M) (Q : Int → Mem → Prop) (hv : qX12_isNew  M Q) : Met l yX12_isNew (lw_w yX12_isNew cX12_isNew 1 (some .int)) (rmk 2 0 0) (kPc D τ sA sV (WM τ ad M) sz [.ref (ad 1)]) (gQi D (EQi (WM τ ad) MR Q) (va_A (WM τ ad M) sz)) 0 0 (va_A (WM τ ad M) sz) := by
  refine k_met (ret := (some .int)) (Qc := gQi D (EQi (WM τ ad) MR Q)) (by decide +kernel) (Nat.le_of_ble_eq_true rfl) ?_
  intro p e s m args below meth c A ls hx hb hml hr hlk hnm hC hLS hA hw hl
  have hC : cx D τ s m args RX12 := hC
  have hl : lv_has ls 1 [(0, .ref (ad 1))] := hl
  unfold qX12_isNew at hv
  have J36 : ∀ (t0 : Int) (t1 : Int) (M : Mem) (H : Heap) (locs : List Loc) (ls : Array Slot), MR M → qX12_isNew_J36  Q t0 t1 M → wS D A s.heap (WM τ ad M) H locs → lv_has ls 1 [(0, .ref (ad 1))] → W p l e (rmk 2 0 0) s m args below meth c H locs 0 0 (MQ below (gQi D (EQi (WM τ ad) MR Q) A) args s 0 0 A) (F0 m 36 ls [.int (iI t0), .int (iI t1), .ref (ad 1)]) := by
    intro t0 t1 M H locs ls hM hv hw hl
    unfold qX12_isNew_J36 at hv
    obtain ⟨c9, hv⟩ := hv
    refine k_cSi (wq_M τ ad) hx hb hml hC hLS hA hw hl.1 (mX12_flag l D τ ad sA sV _ t0 c9 M hM _ hv) kX12_flag ml_X12_154 rfl rfl (Nat.le_of_ble_eq_true rfl) (rm_ok (by decide) (by decide)) ⟨Nat.zero_le _, Nat.zero_le _⟩ dX12_isNew_36 (fun x10 M10 H locs g10 hM hv hw => ?_)
    have hv := hv g10
    refine r_iadd (z := (t1 + x10)) hx hb dX12_isNew_39 rfl ?_
    obtain ⟨c11, hv⟩ := hv
    obtain ⟨M12, e12⟩ : ∃ M12 : Mem, M12 = up2 M10 1 6 (t1 + x10) := ⟨_, rfl⟩
    have hv := hv M12 e12
    refine pf_X12_211 (ws' := (WM τ ad M12)) hx hb hC hw 1 (gM_1 τ ad M10) (Nat.le_of_ble_eq_true rfl) (by rw [e12]; exact sM_1_6 τ ad M10 _) dX12_isNew_40 (fun H locs hw => ?_)
    have hM : MR M12 := by rw [e12]; exact hM.put (by decide) c11
    refine lv_aload_n hx hb dX12_isNew_43 rfl (lv_at hl 0 rfl) ?_
    refine gf_X12_199 hx hb hC hw 1 (gM_1 τ ad M12) rfl dX12_isNew_44 ?_
    refine r_top (fun x13 e13 => ?_)
    have g13 : iR x13 := by rw [e13]; exact hM.get (by decide) _
    have hv := hv x13 e13 g13
    exact k_iret (wq_M τ ad) hx hb hr hlk hw hM g13 hv dX12_isNew_47
  have J16 : ∀ (t0 : Int) (M : Mem) (H : Heap) (locs : List Loc) (ls : Array Slot), MR M → qX12_isNew_J16  Q t0 M → wS D A s.heap (WM τ ad M) H locs → lv_has ls 1 [(0, .ref (ad 1))] → W p l e (rmk 2 0 0) s m args below meth c H locs 0 0 (MQ below (gQi D (EQi (WM τ ad) MR Q) A) args s 0 0 A) (F0 m 16 ls [.int (iI t0), .ref (ad 1)]) := by
    intro t0 M H locs ls hM hv hw hl
    unfold qX12_isNew_J16 at hv
    obtain ⟨c4, hv⟩ := hv
    obtain ⟨M5, e5⟩ : ∃ M5 : Mem, M5 = up2 M 1 28 t0 := ⟨_, rfl⟩
    have hv := hv M5 e5
    refine pf_X12_186 (ws' := (WM τ ad M5)) hx hb hC hw 1 (gM_1 τ ad M) (Nat.le_of_ble_eq_true rfl) (by rw [e5]; exact sM_1_28 τ ad M _) dX12_isNew_16 (fun H locs hw => ?_)
    have hM : MR M5 := by rw [e5]; exact hM.put (by decide) c4
    refine lv_aload_n hx hb dX12_isNew_19 rfl (lv_at hl 0 rfl) ?_
    refine lv_dup hx hb dX12_isNew_20 rfl ?_
    refine gf_X12_211 hx hb hC hw 1 (gM_1 τ ad M5) rfl dX12_isNew_21 ?_
    refine r_top (fun x6 e6 => ?_)
    have g6 : iR x6 := by rw [e6]; exact hM.get (by decide) _
    have hv := hv x6 e6 g6
    refine lv_aload_n hx hb dX12_isNew_24 rfl (lv_at hl 0 rfl) ?_
    refine gf_X12_199 hx hb hC hw 1 (gM_1 τ ad M5) rfl dX12_isNew_25 ?_
    refine r_top (fun x7 e7 => ?_)
    have g7 : iR x7 := by rw [e7]; exact hM.get (by decide) _
    have hv := hv x7 e7 g7
    refine r_if_le (tgt := 35) hx hb dX12_isNew_28 (by decide) g7  (fun b8 => ?_) (fun b8 => ?_)
    · have hv := hv.1 b8
      refine r_iconst hx hb dX12_isNew_35 ?_
      exact J36 0 x6 M5 _ _ _ hM hv hw (lv_sub hl [0] rfl)
    · have hv := hv.2 b8
      refine r_iconst hx hb dX12_isNew_31 ?_
      refine lv_goto (tgt := 36) hx hb dX12_isNew_32 (by decide) ?_
      exact J36 1 x6 M5 _ _ _ hM hv hw (lv_sub hl [0] rfl)
  refine lv_aload_n hx hb dX12_isNew_0 rfl (lv_at hl 0 rfl) ?_
  refine lv_aload_n hx hb dX12_isNew_1 rfl (lv_at hl 0 rfl) ?_
  refine gf_X12_199 hx hb hC hw 1 (gM_1 τ ad M) rfl dX12_isNew_2 ?_
  refine r_top (fun x1 e1 => ?_)
  have g1 : iR x1 := by rw [e1]; exact hM.get (by decide) _
  have hv := hv x1 e1 g1
  refine r_if_le (tgt := 12) hx hb dX12_isNew_5 (by decide) g1  (fun b2 => ?_) (fun b2 => ?_)
  · have hv := hv.1 b2
    refine lv_aload_n hx hb dX12_isNew_12 rfl (lv_at hl 0 rfl) ?_
    refine gf_X12_186 hx hb hC hw 1 (gM_1 τ ad M) rfl dX12_isNew_13 ?_
    refine r_top (fun x3 e3 => ?_)
    have g3 : iR x3 := by rw [e3]; exact hM.get (by decide) _
    have hv := hv x3 e3 g3
    exact J16 x3 M _ _ _ hM hv hw (lv_sub hl [0] rfl)
  · have hv := hv.2 b2
    refine r_iconst hx hb dX12_isNew_8 ?_
    refine lv_goto (tgt := 16) hx hb dX12_isNew_9 (by decide) ?_
    exact J16 0 M _ _ _ hM hv hw (lv_sub hl [0] rfl)
set_option maxHeartbeats 4000000 in
set_option maxRecDepth 100000 in
theorem mX12_gate (l : Launch) (D : va_G) (τ : Nat → ClassId) (ad : Nat → Nat) (sA sV : Nat → Nat) (sz : Nat)   (M : Mem) (hM : MR M) (Q : Int → Mem → Prop) (hv : qX12_gate  M Q) : Met l yX12_gate (lw_w yX12_gate cX12_gate 1 (some .int)) (rmk 1 0 0) (kPc D τ sA sV (WM τ ad M) sz [.ref (ad 1)]) (gQi D (EQi (WM τ ad) MR Q) (va_A (WM τ ad M) sz)) 0 0 (va_A (WM τ ad M) sz) := by
  refine k_met (ret := (some .int)) (Qc := gQi D (EQi (WM τ ad) MR Q)) (by decide +kernel) (Nat.le_of_ble_eq_true rfl) ?_
  intro p e s m args below meth c A ls hx hb hml hr hlk hnm hC hLS hA hw hl
  have hC : cx D τ s m args RX12 := hC
  have hl : lv_has ls 1 [(0, .ref (ad 1))] := hl
  unfold qX12_gate at hv
  refine lv_aload_n hx hb dX12_gate_0 rfl (lv_at hl 0 rfl) ?_
  refine gf_X12_13 hx hb hC hw 1 (gM_1 τ ad M) rfl dX12_gate_1 ?_
  refine r_top (fun x1 e1 => ?_)
  have g1 : iR x1 := by rw [e1]; exact hM.get (by decide) _
  have hv := hv x1 e1 g1
  refine r_iconst hx hb dX12_gate_4 ?_
  refine r_isub (z := (x1 - 1)) hx hb dX12_gate_5 rfl ?_
  obtain ⟨c2, hv⟩ := hv
  exact k_iret (wq_M τ ad) hx hb hr hlk hw hM c2 hv dX12_gate_6
set_option maxHeartbeats 4000000 in
set_option maxRecDepth 100000 in
theorem mX12_isDigit (l : Launch) (D : va_G) (τ : Nat → ClassId) (ad : Nat → Nat) (sA sV : Nat → Nat) (sz : Nat)   (M : Mem) (hM : MR M) (Q : Int → Mem → Prop) (hv : qX12_isDigit  M Q) : Met l yX12_isDigit (lw_w yX12_isDigit cX12_isDigit 1 (some .boolean)) (rmk 2 0 0) (kPc D τ sA sV (WM τ ad M) sz [.ref (ad 1)]) (gQi D (EQz (WM τ ad) MR Q) (va_A (WM τ ad M) sz)) 0 0 (va_A (WM τ ad M) sz) := by
  refine k_met (ret := (some .boolean)) (Qc := gQi D (EQz (WM τ ad) MR Q)) (by decide +kernel) (Nat.le_of_ble_eq_true rfl) ?_
  intro p e s m args below meth c A ls hx hb hml hr hlk hnm hC hLS hA hw hl
  have hC : cx D τ s m args RX12 := hC
  have hl : lv_has ls 1 [(0, .ref (ad 1))] := hl
  unfold qX12_isDigit at hv
  refine lv_aload_n hx hb dX12_isDigit_0 rfl (lv_at hl 0 rfl) ?_
  refine gf_X12_139 hx hb hC hw 1 (gM_1 τ ad M) rfl dX12_isDigit_1 ?_
  refine r_top (fun x1 e1 => ?_)
  have g1 : iR x1 := by rw [e1]; exact hM.get (by decide) _
  have hv := hv x1 e1 g1
  refine lv_aload_n hx hb dX12_isDigit_4 rfl (lv_at hl 0 rfl) ?_
  refine gf_X12_151 hx hb hC hw 1 (gM_1 τ ad M) rfl dX12_isDigit_5 ?_
  refine r_top (fun x2 e2 => ?_)
  have g2 : iR x2 := by rw [e2]; exact hM.get (by decide) _
  have hv := hv x2 e2 g2
  refine r_icmp_ge (tgt := 37) hx hb dX12_isDigit_8 (by decide) g1 g2 (fun b3 => ?_) (fun b3 => ?_)
  · have hv := hv.1 b3
    refine r_iconst hx hb dX12_isDigit_37 ?_
    exact k_zret (wq_M τ ad) hx hb hr hlk hw hM (by decide) (by decide) hv dX12_isDigit_38
  · have hv := hv.2 b3
    refine lv_aload_n hx hb dX12_isDigit_11 rfl (lv_at hl 0 rfl) ?_
    refine gf_X12_37 hx hb hC hw 1 (gM_1 τ ad M) rfl dX12_isDigit_12 ?_
    refine lv_aload_n hx hb dX12_isDigit_15 rfl (lv_at hl 0 rfl) ?_
    refine gf_X12_139 hx hb hC hw 1 (gM_1 τ ad M) rfl dX12_isDigit_16 ?_
    refine r_top (fun x4 e4 => ?_)
    have g4 : iR x4 := by rw [e4]; exact hM.get (by decide) _
    have hv := hv x4 e4 g4
    obtain ⟨c5, hv⟩ := hv
    obtain ⟨c6, hv⟩ := hv
    refine r_iald hx hb hC hw 7 (gI_M aM_7 τ ad M) c5 c6 (by decide) dX12_isDigit_19 ?_
    refine r_top (fun x7 e7 => ?_)
    have g7 : iR x7 := by rw [e7]; exact hM.get aM_7.pos _
    have hv := hv x7 e7 g7
    refine r_i2l hx hb dX12_isDigit_20 g7 ?_
    refine r_ldc2 (z := 48) hx hb hC ct_X12_158 (by decide +kernel) dX12_isDigit_21 ?_
    refine r_ldc2 (z := 57) hx hb hC ct_X12_160 (by decide +kernel) dX12_isDigit_24 ?_
    refine k_cSz (wq_M τ ad) hx hb hml hC hLS hA hw hl.1 (mX12_in l D τ ad sA sV _ x7 48 57 (iR_lR g7) (by decide) (by decide) M hM _ hv) kX12_in ml_X12_125 rfl rfl (Nat.le_of_ble_eq_true rfl) (rm_ok (by decide) (by decide)) ⟨Nat.zero_le _, Nat.zero_le _⟩ dX12_isDigit_27 (fun x8 M8 H locs g8 z8 hM hv hw => ?_)
    have hv := hv g8 z8
    refine r_if_eq (tgt := 37) hx hb dX12_isDigit_30 (by decide) g8  (fun b9 => ?_) (fun b9 => ?_)
    · have hv := hv.1 b9
      refine r_iconst hx hb dX12_isDigit_37 ?_
      exact k_zret (wq_M τ ad) hx hb hr hlk hw hM (by decide) (by decide) hv dX12_isDigit_38
    · have hv := hv.2 b9
      refine r_iconst hx hb dX12_isDigit_33 ?_
      refine lv_goto (tgt := 38) hx hb dX12_isDigit_34 (by decide) ?_
      exact k_zret (wq_M τ ad) hx hb hr hlk hw hM (by decide) (by decide) hv dX12_isDigit_38
set_option maxHeartbeats 4000000 in
set_option maxRecDepth 100000 in
theorem mX12_number (l : Launch) (D : va_G) (τ : Nat → ClassId) (ad : Nat → Nat) (sA sV : Nat → Nat) (sz : Nat) (p1 : Int) (hp1 : iR p1) (M : Mem) (hM : MR M) (Q : Int → Mem → Prop) (hv : qX12_number p1 M Q) : Met l yX12_number (lw_w yX12_number cX12_number 4 (some .int)) (rmk 3 0 0) (kPc D τ sA sV (WM τ ad M) sz [.ref (ad 1), .int (iI p1)]) (gQi D (EQi (WM τ ad) MR Q) (va_A (WM τ ad M) sz)) 0 0 (va_A (WM τ ad M) sz) := by
  refine k_met (ret := (some .int)) (Qc := gQi D (EQi (WM τ ad) MR Q)) (by decide +kernel) (Nat.le_of_ble_eq_true rfl) ?_
  intro p e s m args below meth c A ls hx hb hml hr hlk hnm hC hLS hA hw hl
  have hC : cx D τ s m args RX12 := hC
  have hl : lv_has ls 4 [(0, .ref (ad 1)), (1, .int (iI p1))] := hl
  unfold qX12_number at hv
  have L13 : ∀ (n : Nat) (v2 : Int) (v3 : Int) (M : Mem) (H : Heap) (locs : List Loc) (ls : Array Slot), MR M → qX12_number_L13 p1  Q n v2 v3 M → wS D A s.heap (WM τ ad M) H locs → lv_has ls 4 [(0, .ref (ad 1)), (1, .int (iI p1)), (2, .int (iI v2)), (3, .int (iI v3))] → W p l e (rmk 3 0 0) s m args below meth c H locs 0 0 (MQ below (gQi D (EQi (WM τ ad) MR Q) A) args s 0 0 A) (F0 m 13 ls []) := by
    intro n
    induction n with
    | zero => intro v2 v3 M H locs ls hM hv; rw [qX12_number_L13] at hv; exact hv.elim
    | succ n ih =>
      intro v2 v3 M H locs ls hM hv hw hl
      rw [qX12_number_L13] at hv
      refine lv_iload_n hx hb dX12_number_13 rfl (lv_at hl 3 rfl) ?_
      refine lv_iload_n hx hb dX12_number_14 rfl (lv_at hl 1 rfl) ?_
      obtain ⟨c3, hv⟩ := hv
      refine r_icmp_ge (tgt := 59) hx hb dX12_number_15 (by decide) c3 hp1 (fun b4 => ?_) (fun b4 => ?_)
      · have hv := hv.1 b4
        refine lv_iload_n hx hb dX12_number_59 rfl (lv_at hl 2 rfl) ?_
        obtain ⟨c5, hv⟩ := hv
        exact k_iret (wq_M τ ad) hx hb hr hlk hw hM c5 hv dX12_number_60
      · have hv := hv.2 b4
        refine lv_aload_n hx hb dX12_number_18 rfl (lv_at hl 0 rfl) ?_
        refine k_cVz (wq_M τ ad) hx hb hml hC hLS hA hw hl.1 (mX12_isDigit l D τ ad sA sV _   M hM _ hv) kX12_isDigit ml_X12_172 rfl (gM_1 τ ad M) rfl rfl (Nat.le_of_ble_eq_true rfl) (rm_ok (by decide) (by decide)) ⟨Nat.zero_le _, Nat.zero_le _⟩ dX12_number_19 (fun x6 M6 H locs g6 z6 hM hv hw => ?_)
        have hv := hv g6 z6
        refine r_if_eq (tgt := 59) hx hb dX12_number_22 (by decide) g6  (fun b7 => ?_) (fun b7 => ?_)
        · have hv := hv.1 b7
          refine lv_iload_n hx hb dX12_number_59 rfl (lv_at hl 2 rfl) ?_
          obtain ⟨c8, hv⟩ := hv
          exact k_iret (wq_M τ ad) hx hb hr hlk hw hM c8 hv dX12_number_60
        · have hv := hv.2 b7
          refine r_bipush hx hb dX12_number_25 (by decide +kernel) ?_
          refine lv_iload_n hx hb dX12_number_27 rfl (lv_at hl 2 rfl) ?_
          refine r_imul (z := (10 * v2)) hx hb dX12_number_28 rfl ?_
          refine lv_aload_n hx hb dX12_number_29 rfl (lv_at hl 0 rfl) ?_
          refine gf_X12_37 hx hb hC hw 1 (gM_1 τ ad M6) rfl dX12_number_30 ?_
          refine lv_aload_n hx hb dX12_number_33 rfl (lv_at hl 0 rfl) ?_
          refine gf_X12_139 hx hb hC hw 1 (gM_1 τ ad M6) rfl dX12_number_34 ?_
          refine r_top (fun x9 e9 => ?_)
          have g9 : iR x9 := by rw [e9]; exact hM.get (by decide) _
          have hv := hv x9 e9 g9
          obtain ⟨c10, hv⟩ := hv
          obtain ⟨c11, hv⟩ := hv
          refine r_iald hx hb hC hw 7 (gI_M aM_7 τ ad M6) c10 c11 (by decide) dX12_number_37 ?_
          refine r_top (fun x12 e12 => ?_)
          have g12 : iR x12 := by rw [e12]; exact hM.get aM_7.pos _
          have hv := hv x12 e12 g12
          refine r_iadd (z := ((10 * v2) + x12)) hx hb dX12_number_38 rfl ?_
          refine r_bipush hx hb dX12_number_39 (by decide +kernel) ?_
          refine r_isub (z := (((10 * v2) + x12) - 48)) hx hb dX12_number_41 rfl ?_
          refine lv_istore_n (lv' := [(2, .int (iI (((10 * v2) + x12) - 48))), (0, .ref (ad 1)), (1, .int (iI p1)), (3, .int (iI v3))]) hx hb dX12_number_42 rfl hl (by decide) rfl (fun ls hl => ?_)
          refine lv_aload_n hx hb dX12_number_43 rfl (lv_at hl 1 rfl) ?_
          refine lv_dup hx hb dX12_number_44 rfl ?_
          refine gf_X12_139 hx hb hC hw 1 (gM_1 τ ad M6) rfl dX12_number_45 ?_
          refine r_top (fun x13 e13 => ?_)
          have g13 : iR x13 := by rw [e13]; exact hM.get (by decide) _
          have hv := hv x13 e13 g13
          refine r_iconst hx hb dX12_number_48 ?_
          refine r_iadd (z := (x13 + 1)) hx hb dX12_number_49 rfl ?_
          obtain ⟨c14, hv⟩ := hv
          obtain ⟨M15, e15⟩ : ∃ M15 : Mem, M15 = up2 M6 1 15 (x13 + 1) := ⟨_, rfl⟩
          have hv := hv M15 e15
          refine pf_X12_139 (ws' := (WM τ ad M15)) hx hb hC hw 1 (gM_1 τ ad M6) (Nat.le_of_ble_eq_true rfl) (by rw [e15]; exact sM_1_15 τ ad M6 _) dX12_number_50 (fun H locs hw => ?_)
          have hM : MR M15 := by rw [e15]; exact hM.put (by decide) c14
          refine r_iinc (v := (v3 + 1)) (lv' := [(3, .int (iI (v3 + 1))), (2, .int (iI (((10 * v2) + x12) - 48))), (0, .ref (ad 1)), (1, .int (iI p1))]) hx hb dX12_number_53 hl (k := 3) rfl rfl (by decide) rfl (fun ls hl => ?_)
          refine lv_goto (tgt := 13) hx hb dX12_number_56 (by decide) ?_
          exact ih (((10 * v2) + x12) - 48) (v3 + 1) M15 _ _ _ hM hv hw (lv_sub hl [2, 3, 1, 0] rfl)
  refine lv_aload_n hx hb dX12_number_0 rfl (lv_at hl 0 rfl) ?_
  refine k_cVz (wq_M τ ad) hx hb hml hC hLS hA hw hl.1 (mX12_isDigit l D τ ad sA sV _   M hM _ hv) kX12_isDigit ml_X12_172 rfl (gM_1 τ ad M) rfl rfl (Nat.le_of_ble_eq_true rfl) (rm_ok (by decide) (by decide)) ⟨Nat.zero_le _, Nat.zero_le _⟩ dX12_number_1 (fun x1 M1 H locs g1 z1 hM hv hw => ?_)
  have hv := hv g1 z1
  refine r_if_ne (tgt := 9) hx hb dX12_number_4 (by decide) g1  (fun b2 => ?_) (fun b2 => ?_)
  · have hv := hv.1 b2
    refine r_iconst hx hb dX12_number_9 ?_
    refine lv_istore_n (lv' := [(2, .int (iI 0)), (0, .ref (ad 1)), (1, .int (iI p1))]) hx hb dX12_number_10 rfl hl (by decide) rfl (fun ls hl => ?_)
    refine r_iconst hx hb dX12_number_11 ?_
    refine lv_istore_n (lv' := [(3, .int (iI 0)), (2, .int (iI 0)), (0, .ref (ad 1)), (1, .int (iI p1))]) hx hb dX12_number_12 rfl hl (by decide) rfl (fun ls hl => ?_)
    obtain ⟨n16, hv⟩ := hv
    refine L13  n16 0 0 M1 _ _ _ hM hv hw (lv_sub hl [2, 3, 1, 0] rfl)
  · have hv := hv.2 b2
    refine r_iconst hx hb dX12_number_7 ?_
    exact k_iret (wq_M τ ad) hx hb hr hlk hw hM (by decide) hv dX12_number_8
set_option maxHeartbeats 4000000 in
set_option maxRecDepth 100000 in
theorem mX12_onCell (l : Launch) (D : va_G) (τ : Nat → ClassId) (ad : Nat → Nat) (sA sV : Nat → Nat) (sz : Nat) (k1 : Nat) (p2 : Int) (hk1 : MI 38 k1) (hp2 : iR p2) (M : Mem) (hM : MR M) (Q : Int → Mem → Prop) (hv : qX12_onCell k1 p2 M Q) : Met l yX12_onCell (lw_w yX12_onCell cX12_onCell 5 (some .int)) (rmk 1 0 0) (kPc D τ sA sV (WM τ ad M) sz [.ref (ad 1), .ref (ad k1), .int (iI p2)]) (gQi D (EQi (WM τ ad) MR Q) (va_A (WM τ ad M) sz)) 0 0 (va_A (WM τ ad M) sz) := by
  refine k_met (ret := (some .int)) (Qc := gQi D (EQi (WM τ ad) MR Q)) (by decide +kernel) (Nat.le_of_ble_eq_true rfl) ?_
  intro p e s m args below meth c A ls hx hb hml hr hlk hnm hC hLS hA hw hl
  have hC : cx D τ s m args RX12 := hC
  have hl : lv_has ls 5 [(0, .ref (ad 1)), (1, .ref (ad k1)), (2, .int (iI p2))] := hl
  unfold qX12_onCell at hv
  have L5 : ∀ (n : Nat) (v3 : Int) (v4 : Int) (M : Mem) (H : Heap) (locs : List Loc) (ls : Array Slot), MR M → qX12_onCell_L5 k1 p2  Q n v3 v4 M → wS D A s.heap (WM τ ad M) H locs → lv_has ls 5 [(0, .ref (ad 1)), (1, .ref (ad k1)), (2, .int (iI p2)), (3, .int (iI v3)), (4, .int (iI v4))] → W p l e (rmk 1 0 0) s m args below meth c H locs 0 0 (MQ below (gQi D (EQi (WM τ ad) MR Q) A) args s 0 0 A) (F0 m 5 ls []) := by
    intro n
    induction n with
    | zero => intro v3 v4 M H locs ls hM hv; rw [qX12_onCell_L5] at hv; exact hv.elim
    | succ n ih =>
      intro v3 v4 M H locs ls hM hv hw hl
      rw [qX12_onCell_L5] at hv
      refine lv_iload hx hb dX12_onCell_5 (lv_at hl 4 rfl) ?_
      refine lv_aload_n hx hb dX12_onCell_7 rfl (lv_at hl 0 rfl) ?_
      refine gf_X12_122 hx hb hC hw 1 (gM_1 τ ad M) rfl dX12_onCell_8 ?_
      refine r_top (fun x1 e1 => ?_)
      have g1 : iR x1 := by rw [e1]; exact hM.get (by decide) _
      have hv := hv x1 e1 g1
      obtain ⟨c2, hv⟩ := hv
      refine r_icmp_ge (tgt := 35) hx hb dX12_onCell_11 (by decide) c2 g1 (fun b3 => ?_) (fun b3 => ?_)
      · have hv := hv.1 b3
        refine lv_iload_n hx hb dX12_onCell_35 rfl (lv_at hl 3 rfl) ?_
        obtain ⟨c4, hv⟩ := hv
        exact k_iret (wq_M τ ad) hx hb hr hlk hw hM c4 hv dX12_onCell_36
      · have hv := hv.2 b3
        refine lv_aload_n hx hb dX12_onCell_14 rfl (lv_at hl 1 rfl) ?_
        refine lv_iload hx hb dX12_onCell_15 (lv_at hl 4 rfl) ?_
        obtain ⟨c5, hv⟩ := hv
        obtain ⟨c6, hv⟩ := hv
        refine r_iald hx hb hC hw k1 (gI_M hk1 τ ad M) c5 c6 (by decide) dX12_onCell_17 ?_
        refine r_top (fun x7 e7 => ?_)
        have g7 : iR x7 := by rw [e7]; exact hM.get hk1.pos _
        have hv := hv x7 e7 g7
        refine lv_iload_n hx hb dX12_onCell_18 rfl (lv_at hl 2 rfl) ?_
        refine r_icmp_ne (tgt := 27) hx hb dX12_onCell_19 (by decide) g7 hp2 (fun b8 => ?_) (fun b8 => ?_)
        · have hv := hv.1 b8
          refine lv_iload_n hx hb dX12_onCell_27 rfl (lv_at hl 3 rfl) ?_
          refine lv_istore_n (lv' := [(3, .int (iI v3)), (0, .ref (ad 1)), (1, .ref (ad k1)), (2, .int (iI p2)), (4, .int (iI v4))]) hx hb dX12_onCell_28 rfl hl (by decide) rfl (fun ls hl => ?_)
          refine r_iinc (v := (v4 + 1)) (lv' := [(4, .int (iI (v4 + 1))), (3, .int (iI v3)), (0, .ref (ad 1)), (1, .ref (ad k1)), (2, .int (iI p2))]) hx hb dX12_onCell_29 hl (k := 4) rfl rfl (by decide) rfl (fun ls hl => ?_)
          refine lv_goto (tgt := 5) hx hb dX12_onCell_32 (by decide) ?_
          exact ih v3 (v4 + 1) M _ _ _ hM hv hw (lv_sub hl [2, 3, 4, 1, 0] rfl)
        · have hv := hv.2 b8
          refine lv_iload hx hb dX12_onCell_22 (lv_at hl 4 rfl) ?_
          refine lv_goto (tgt := 28) hx hb dX12_onCell_24 (by decide) ?_
          refine lv_istore_n (lv' := [(3, .int (iI v4)), (0, .ref (ad 1)), (1, .ref (ad k1)), (2, .int (iI p2)), (4, .int (iI v4))]) hx hb dX12_onCell_28 rfl hl (by decide) rfl (fun ls hl => ?_)
          refine r_iinc (v := (v4 + 1)) (lv' := [(4, .int (iI (v4 + 1))), (3, .int (iI v4)), (0, .ref (ad 1)), (1, .ref (ad k1)), (2, .int (iI p2))]) hx hb dX12_onCell_29 hl (k := 4) rfl rfl (by decide) rfl (fun ls hl => ?_)
          refine lv_goto (tgt := 5) hx hb dX12_onCell_32 (by decide) ?_
          exact ih v4 (v4 + 1) M _ _ _ hM hv hw (lv_sub hl [2, 3, 4, 1, 0] rfl)
  refine r_iconst hx hb dX12_onCell_0 ?_
  refine lv_istore_n (lv' := [(3, .int (iI (-1))), (0, .ref (ad 1)), (1, .ref (ad k1)), (2, .int (iI p2))]) hx hb dX12_onCell_1 rfl hl (by decide) rfl (fun ls hl => ?_)
  refine r_iconst hx hb dX12_onCell_2 ?_
  refine lv_istore (lv' := [(4, .int (iI 0)), (3, .int (iI (-1))), (0, .ref (ad 1)), (1, .ref (ad k1)), (2, .int (iI p2))]) hx hb dX12_onCell_3 hl (by decide) rfl (fun ls hl => ?_)
  obtain ⟨n9, hv⟩ := hv
  refine L5  n9 (-1) 0 M _ _ _ hM hv hw (lv_sub hl [2, 3, 4, 1, 0] rfl)
set_option maxHeartbeats 4000000 in
set_option maxRecDepth 100000 in
theorem mX12_readsCell (l : Launch) (D : va_G) (τ : Nat → ClassId) (ad : Nat → Nat) (sA sV : Nat → Nat) (sz : Nat) (p1 : Int) (hp1 : iR p1) (M : Mem) (hM : MR M) (Q : Int → Mem → Prop) (hv : qX12_readsCell p1 M Q) : Met l yX12_readsCell (lw_w yX12_readsCell cX12_readsCell 5 (some .int)) (rmk 4 0 0) (kPc D τ sA sV (WM τ ad M) sz [.ref (ad 1), .int (iI p1)]) (gQi D (EQi (WM τ ad) MR Q) (va_A (WM τ ad M) sz)) 0 0 (va_A (WM τ ad M) sz) := by
  refine k_met (ret := (some .int)) (Qc := gQi D (EQi (WM τ ad) MR Q)) (by decide +kernel) (Nat.le_of_ble_eq_true rfl) ?_
  intro p e s m args below meth c A ls hx hb hml hr hlk hnm hC hLS hA hw hl
  have hC : cx D τ s m args RX12 := hC
  have hl : lv_has ls 5 [(0, .ref (ad 1)), (1, .int (iI p1))] := hl
  unfold qX12_readsCell at hv
  have L45 : ∀ (X85 : Int → Int → Mem → Prop), (∀ (v2 : Int) (v3 : Int) (M : Mem) (H : Heap) (locs : List Loc) (ls : Array Slot), MR M → X85 v2 v3 M → wS D A s.heap (WM τ ad M) H locs → lv_has ls 5 [(0, .ref (ad 1)), (2, .int (iI v2)), (3, .int (iI v3))] → W p l e (rmk 4 0 0) s m args below meth c H locs 0 0 (MQ below (gQi D (EQi (WM τ ad) MR Q) A) args s 0 0 A) (F0 m 85 ls [])) → ∀ (n : Nat) (v2 : Int) (v3 : Int) (v4 : Int) (M : Mem) (H : Heap) (locs : List Loc) (ls : Array Slot), MR M → qX12_readsCell_L45 p1 X85 Q n v2 v3 v4 M → wS D A s.heap (WM τ ad M) H locs → lv_has ls 5 [(0, .ref (ad 1)), (1, .int (iI p1)), (2, .int (iI v2)), (3, .int (iI v3)), (4, .int (iI v4))] → W p l e (rmk 4 0 0) s m args below meth c H locs 0 0 (MQ below (gQi D (EQi (WM τ ad) MR Q) A) args s 0 0 A) (F0 m 45 ls []) := by
    intro X85 hX85 n
    induction n with
    | zero => intro v2 v3 v4 M H locs ls hM hv; rw [qX12_readsCell_L45] at hv; exact hv.elim
    | succ n ih =>
      intro v2 v3 v4 M H locs ls hM hv hw hl
      rw [qX12_readsCell_L45] at hv
      refine lv_iload hx hb dX12_readsCell_45 (lv_at hl 4 rfl) ?_
      refine lv_aload_n hx hb dX12_readsCell_47 rfl (lv_at hl 0 rfl) ?_
      refine gf_X12_199 hx hb hC hw 1 (gM_1 τ ad M) rfl dX12_readsCell_48 ?_
      refine r_top (fun x5 e5 => ?_)
      have g5 : iR x5 := by rw [e5]; exact hM.get (by decide) _
      have hv := hv x5 e5 g5
      obtain ⟨c6, hv⟩ := hv
      refine r_icmp_ge (tgt := 85) hx hb dX12_readsCell_51 (by decide) c6 g5 (fun b7 => ?_) (fun b7 => ?_)
      · have hv := hv.1 b7
        exact hX85 v2 v3 M _ _ _ hM hv hw (lv_sub hl [0, 2, 3] rfl)
      · have hv := hv.2 b7
        refine lv_iload_n hx hb dX12_readsCell_54 rfl (lv_at hl 1 rfl) ?_
        refine r_if_eq (tgt := 85) hx hb dX12_readsCell_55 (by decide) hp1  (fun b8 => ?_) (fun b8 => ?_)
        · have hv := hv.1 b8
          exact hX85 v2 v3 M _ _ _ hM hv hw (lv_sub hl [0, 2, 3] rfl)
        · have hv := hv.2 b8
          refine lv_iload_n hx hb dX12_readsCell_58 rfl (lv_at hl 3 rfl) ?_
          obtain ⟨c9, hv⟩ := hv
          refine r_if_eq (tgt := 77) hx hb dX12_readsCell_59 (by decide) c9  (fun b10 => ?_) (fun b10 => ?_)
          · have hv := hv.1 b10
            refine r_iconst hx hb dX12_readsCell_77 ?_
            refine lv_istore_n (lv' := [(3, .int (iI 0)), (0, .ref (ad 1)), (1, .int (iI p1)), (2, .int (iI v2)), (4, .int (iI v4))]) hx hb dX12_readsCell_78 rfl hl (by decide) rfl (fun ls hl => ?_)
            refine r_iinc (v := (v4 + 1)) (lv' := [(4, .int (iI (v4 + 1))), (3, .int (iI 0)), (0, .ref (ad 1)), (1, .int (iI p1)), (2, .int (iI v2))]) hx hb dX12_readsCell_79 hl (k := 4) rfl rfl (by decide) rfl (fun ls hl => ?_)
            refine lv_goto (tgt := 45) hx hb dX12_readsCell_82 (by decide) ?_
            exact ih v2 0 (v4 + 1) M _ _ _ hM hv hw (lv_sub hl [2, 3, 4, 1, 0] rfl)
          · have hv := hv.2 b10
            refine lv_aload_n hx hb dX12_readsCell_62 rfl (lv_at hl 0 rfl) ?_
            refine gf_X12_43 hx hb hC hw 1 (gM_1 τ ad M) rfl dX12_readsCell_63 ?_
            refine lv_iload hx hb dX12_readsCell_66 (lv_at hl 4 rfl) ?_
            obtain ⟨c11, hv⟩ := hv
            obtain ⟨c12, hv⟩ := hv
            refine r_iald hx hb hC hw 9 (gI_M aM_9 τ ad M) c11 c12 (by decide) dX12_readsCell_68 ?_
            refine r_top (fun x13 e13 => ?_)
            have g13 : iR x13 := by rw [e13]; exact hM.get aM_9.pos _
            have hv := hv x13 e13 g13
            refine lv_iload_n hx hb dX12_readsCell_69 rfl (lv_at hl 2 rfl) ?_
            obtain ⟨c14, hv⟩ := hv
            refine r_icmp_eq (tgt := 77) hx hb dX12_readsCell_70 (by decide) g13 c14 (fun b15 => ?_) (fun b15 => ?_)
            · have hv := hv.1 b15
              refine r_iconst hx hb dX12_readsCell_77 ?_
              refine lv_istore_n (lv' := [(3, .int (iI 0)), (0, .ref (ad 1)), (1, .int (iI p1)), (2, .int (iI v2)), (4, .int (iI v4))]) hx hb dX12_readsCell_78 rfl hl (by decide) rfl (fun ls hl => ?_)
              refine r_iinc (v := (v4 + 1)) (lv' := [(4, .int (iI (v4 + 1))), (3, .int (iI 0)), (0, .ref (ad 1)), (1, .int (iI p1)), (2, .int (iI v2))]) hx hb dX12_readsCell_79 hl (k := 4) rfl rfl (by decide) rfl (fun ls hl => ?_)
              refine lv_goto (tgt := 45) hx hb dX12_readsCell_82 (by decide) ?_
              exact ih v2 0 (v4 + 1) M _ _ _ hM hv hw (lv_sub hl [2, 3, 4, 1, 0] rfl)
            · have hv := hv.2 b15
              refine r_iconst hx hb dX12_readsCell_73 ?_
              refine lv_goto (tgt := 78) hx hb dX12_readsCell_74 (by decide) ?_
              refine lv_istore_n (lv' := [(3, .int (iI 1)), (0, .ref (ad 1)), (1, .int (iI p1)), (2, .int (iI v2)), (4, .int (iI v4))]) hx hb dX12_readsCell_78 rfl hl (by decide) rfl (fun ls hl => ?_)
              refine r_iinc (v := (v4 + 1)) (lv' := [(4, .int (iI (v4 + 1))), (3, .int (iI 1)), (0, .ref (ad 1)), (1, .int (iI p1)), (2, .int (iI v2))]) hx hb dX12_readsCell_79 hl (k := 4) rfl rfl (by decide) rfl (fun ls hl => ?_)
              refine lv_goto (tgt := 45) hx hb dX12_readsCell_82 (by decide) ?_
              exact ih v2 1 (v4 + 1) M _ _ _ hM hv hw (lv_sub hl [2, 3, 4, 1, 0] rfl)
  have J99 : ∀ (v2 : Int) (v3 : Int) (t0 : Int) (t1 : Int) (M : Mem) (H : Heap) (locs : List Loc) (ls : Array Slot), MR M → qX12_readsCell_J99 p1 Q v2 v3 t0 t1 M → wS D A s.heap (WM τ ad M) H locs → lv_has ls 5 [(2, .int (iI v2)), (3, .int (iI v3))] → W p l e (rmk 4 0 0) s m args below meth c H locs 0 0 (MQ below (gQi D (EQi (WM τ ad) MR Q) A) args s 0 0 A) (F0 m 99 ls [.int (iI t0), .int (iI t1), .ref (ad 1)]) := by
    intro v2 v3 t0 t1 M H locs ls hM hv hw hl
    unfold qX12_readsCell_J99 at hv
    obtain ⟨c20, hv⟩ := hv
    refine k_cSi (wq_M τ ad) hx hb hml hC hLS hA hw hl.1 (mX12_flag l D τ ad sA sV _ t0 c20 M hM _ hv) kX12_flag ml_X12_154 rfl rfl (Nat.le_of_ble_eq_true rfl) (rm_ok (by decide) (by decide)) ⟨Nat.zero_le _, Nat.zero_le _⟩ dX12_readsCell_99 (fun x21 M21 H locs g21 hM hv hw => ?_)
    have hv := hv g21
    refine r_isub (z := (t1 - x21)) hx hb dX12_readsCell_102 rfl ?_
    obtain ⟨c22, hv⟩ := hv
    obtain ⟨M23, e23⟩ : ∃ M23 : Mem, M23 = up2 M21 1 15 (t1 - x21) := ⟨_, rfl⟩
    have hv := hv M23 e23
    refine pf_X12_139 (ws' := (WM τ ad M23)) hx hb hC hw 1 (gM_1 τ ad M21) (Nat.le_of_ble_eq_true rfl) (by rw [e23]; exact sM_1_15 τ ad M21 _) dX12_readsCell_103 (fun H locs hw => ?_)
    have hM : MR M23 := by rw [e23]; exact hM.put (by decide) c22
    refine lv_iload_n hx hb dX12_readsCell_106 rfl (lv_at hl 1 rfl) ?_
    obtain ⟨c24, hv⟩ := hv
    refine r_if_eq (tgt := 114) hx hb dX12_readsCell_107 (by decide) c24  (fun b25 => ?_) (fun b25 => ?_)
    · have hv := hv.1 b25
      refine r_iconst hx hb dX12_readsCell_114 ?_
      exact k_iret (wq_M τ ad) hx hb hr hlk hw hM (by decide) hv dX12_readsCell_115
    · have hv := hv.2 b25
      refine lv_iload_n hx hb dX12_readsCell_110 rfl (lv_at hl 0 rfl) ?_
      refine lv_goto (tgt := 115) hx hb dX12_readsCell_111 (by decide) ?_
      obtain ⟨c26, hv⟩ := hv
      exact k_iret (wq_M τ ad) hx hb hr hlk hw hM c26 hv dX12_readsCell_115
  have J85 : ∀ (v2 : Int) (v3 : Int) (M : Mem) (H : Heap) (locs : List Loc) (ls : Array Slot), MR M → qX12_readsCell_J85 p1 Q v2 v3 M → wS D A s.heap (WM τ ad M) H locs → lv_has ls 5 [(0, .ref (ad 1)), (2, .int (iI v2)), (3, .int (iI v3))] → W p l e (rmk 4 0 0) s m args below meth c H locs 0 0 (MQ below (gQi D (EQi (WM τ ad) MR Q) A) args s 0 0 A) (F0 m 85 ls []) := by
    intro v2 v3 M H locs ls hM hv hw hl
    unfold qX12_readsCell_J85 at hv
    refine lv_aload_n hx hb dX12_readsCell_85 rfl (lv_at hl 0 rfl) ?_
    refine lv_dup hx hb dX12_readsCell_86 rfl ?_
    refine gf_X12_139 hx hb hC hw 1 (gM_1 τ ad M) rfl dX12_readsCell_87 ?_
    refine r_top (fun x17 e17 => ?_)
    have g17 : iR x17 := by rw [e17]; exact hM.get (by decide) _
    have hv := hv x17 e17 g17
    refine lv_iload_n hx hb dX12_readsCell_90 rfl (lv_at hl 2 rfl) ?_
    obtain ⟨c18, hv⟩ := hv
    refine r_if_ne (tgt := 98) hx hb dX12_readsCell_91 (by decide) c18  (fun b19 => ?_) (fun b19 => ?_)
    · have hv := hv.1 b19
      refine r_iconst hx hb dX12_readsCell_98 ?_
      exact J99 v2 v3 0 x17 M _ _ _ hM hv hw (lv_sub hl [1, 2] rfl)
    · have hv := hv.2 b19
      refine r_iconst hx hb dX12_readsCell_94 ?_
      refine lv_goto (tgt := 99) hx hb dX12_readsCell_95 (by decide) ?_
      exact J99 v2 v3 1 x17 M _ _ _ hM hv hw (lv_sub hl [1, 2] rfl)
  refine lv_aload_n hx hb dX12_readsCell_0 rfl (lv_at hl 0 rfl) ?_
  refine r_iconst hx hb dX12_readsCell_1 ?_
  refine k_cVi (wq_M τ ad) hx hb hml hC hLS hA hw hl.1 (mX12_number l D τ ad sA sV _ 2 (by decide) M hM _ hv) kX12_number ml_X12_189 rfl (gM_1 τ ad M) rfl rfl (Nat.le_of_ble_eq_true rfl) (rm_ok (by decide) (by decide)) ⟨Nat.zero_le _, Nat.zero_le _⟩ dX12_readsCell_2 (fun x1 M1 H locs g1 hM hv hw => ?_)
  have hv := hv g1
  refine lv_istore_n (lv' := [(2, .int (iI x1)), (0, .ref (ad 1)), (1, .int (iI p1))]) hx hb dX12_readsCell_5 rfl hl (by decide) rfl (fun ls hl => ?_)
  refine lv_iload_n hx hb dX12_readsCell_6 rfl (lv_at hl 0 rfl) ?_
  refine r_if_ge (tgt := 12) hx hb dX12_readsCell_7 (by decide) g1  (fun b2 => ?_) (fun b2 => ?_)
  · have hv := hv.1 b2
    refine lv_iload_n hx hb dX12_readsCell_12 rfl (lv_at hl 0 rfl) ?_
    refine lv_aload_n hx hb dX12_readsCell_13 rfl (lv_at hl 1 rfl) ?_
    refine k_cVi (wq_M τ ad) hx hb hml hC hLS hA hw hl.1 (mX12_gate l D τ ad sA sV _   M1 hM _ hv) kX12_gate ml_X12_192 rfl (gM_1 τ ad M1) rfl rfl (Nat.le_of_ble_eq_true rfl) (rm_ok (by decide) (by decide)) ⟨Nat.zero_le _, Nat.zero_le _⟩ dX12_readsCell_14 (fun x3 M3 H locs g3 hM hv hw => ?_)
    have hv := hv g3
    refine r_icmp_ge (tgt := 40) hx hb dX12_readsCell_17 (by decide) g1 g3 (fun b4 => ?_) (fun b4 => ?_)
    · have hv := hv.1 b4
      refine r_iconst hx hb dX12_readsCell_40 ?_
      refine lv_istore_n (lv' := [(3, .int (iI 0)), (2, .int (iI x1)), (0, .ref (ad 1)), (1, .int (iI p1))]) hx hb dX12_readsCell_41 rfl hl (by decide) rfl (fun ls hl => ?_)
      refine r_iconst hx hb dX12_readsCell_42 ?_
      refine lv_istore (lv' := [(4, .int (iI 0)), (3, .int (iI 0)), (2, .int (iI x1)), (0, .ref (ad 1)), (1, .int (iI p1))]) hx hb dX12_readsCell_43 hl (by decide) rfl (fun ls hl => ?_)
      obtain ⟨n16, hv⟩ := hv
      refine L45 _ ?_ n16 x1 0 0 M3 _ _ _ hM hv hw (lv_sub hl [3, 4, 2, 1, 0] rfl)
      · intro v2 v3 M H locs ls hM hv hw hl
        exact J85 v2 v3 M _ _ _ hM hv hw (lv_sub hl [0, 1, 2] rfl)
    · have hv := hv.2 b4
      refine lv_iload_n hx hb dX12_readsCell_20 rfl (lv_at hl 2 rfl) ?_
      refine r_if_eq (tgt := 36) hx hb dX12_readsCell_21 (by decide) hp1  (fun b27 => ?_) (fun b27 => ?_)
      · have hv := hv.1 b27
        refine r_iconst hx hb dX12_readsCell_36 ?_
        refine lv_goto (tgt := 41) hx hb dX12_readsCell_37 (by decide) ?_
        refine lv_istore_n (lv' := [(3, .int (iI 1)), (2, .int (iI x1)), (0, .ref (ad 1)), (1, .int (iI p1))]) hx hb dX12_readsCell_41 rfl hl (by decide) rfl (fun ls hl => ?_)
        refine r_iconst hx hb dX12_readsCell_42 ?_
        refine lv_istore (lv' := [(4, .int (iI 0)), (3, .int (iI 1)), (2, .int (iI x1)), (0, .ref (ad 1)), (1, .int (iI p1))]) hx hb dX12_readsCell_43 hl (by decide) rfl (fun ls hl => ?_)
        obtain ⟨n28, hv⟩ := hv
        refine L45 _ ?_ n28 x1 1 0 M3 _ _ _ hM hv hw (lv_sub hl [3, 4, 2, 1, 0] rfl)
        · intro v2 v3 M H locs ls hM hv hw hl
          exact J85 v2 v3 M _ _ _ hM hv hw (lv_sub hl [0, 1, 2] rfl)
      · have hv := hv.2 b27
        refine lv_aload_n hx hb dX12_readsCell_24 rfl (lv_at hl 1 rfl) ?_
        refine lv_aload_n hx hb dX12_readsCell_25 rfl (lv_at hl 1 rfl) ?_
        refine gf_X12_31 hx hb hC hw 1 (gM_1 τ ad M3) rfl dX12_readsCell_26 ?_
        refine lv_iload_n hx hb dX12_readsCell_29 rfl (lv_at hl 0 rfl) ?_
        refine k_cVi (wq_M τ ad) hx hb hml hC hLS hA hw hl.1 (mX12_onCell l D τ ad sA sV _ 5 x1 aM_5 g1 M3 hM _ hv) kX12_onCell ml_X12_195 rfl (gM_1 τ ad M3) rfl rfl (Nat.le_of_ble_eq_true rfl) (rm_ok (by decide) (by decide)) ⟨Nat.zero_le _, Nat.zero_le _⟩ dX12_readsCell_30 (fun x29 M29 H locs g29 hM hv hw => ?_)
        have hv := hv g29
        refine r_if_ge (tgt := 40) hx hb dX12_readsCell_33 (by decide) g29  (fun b30 => ?_) (fun b30 => ?_)
        · have hv := hv.1 b30
          refine r_iconst hx hb dX12_readsCell_40 ?_
          refine lv_istore_n (lv' := [(3, .int (iI 0)), (2, .int (iI x1)), (0, .ref (ad 1)), (1, .int (iI p1))]) hx hb dX12_readsCell_41 rfl hl (by decide) rfl (fun ls hl => ?_)
          refine r_iconst hx hb dX12_readsCell_42 ?_
          refine lv_istore (lv' := [(4, .int (iI 0)), (3, .int (iI 0)), (2, .int (iI x1)), (0, .ref (ad 1)), (1, .int (iI p1))]) hx hb dX12_readsCell_43 hl (by decide) rfl (fun ls hl => ?_)
          obtain ⟨n31, hv⟩ := hv
          refine L45 _ ?_ n31 x1 0 0 M29 _ _ _ hM hv hw (lv_sub hl [3, 4, 2, 1, 0] rfl)
          · intro v2 v3 M H locs ls hM hv hw hl
            exact J85 v2 v3 M _ _ _ hM hv hw (lv_sub hl [0, 1, 2] rfl)
        · have hv := hv.2 b30
          refine r_iconst hx hb dX12_readsCell_36 ?_
          refine lv_goto (tgt := 41) hx hb dX12_readsCell_37 (by decide) ?_
          refine lv_istore_n (lv' := [(3, .int (iI 1)), (2, .int (iI x1)), (0, .ref (ad 1)), (1, .int (iI p1))]) hx hb dX12_readsCell_41 rfl hl (by decide) rfl (fun ls hl => ?_)
          refine r_iconst hx hb dX12_readsCell_42 ?_
          refine lv_istore (lv' := [(4, .int (iI 0)), (3, .int (iI 1)), (2, .int (iI x1)), (0, .ref (ad 1)), (1, .int (iI p1))]) hx hb dX12_readsCell_43 hl (by decide) rfl (fun ls hl => ?_)
          obtain ⟨n32, hv⟩ := hv
          refine L45 _ ?_ n32 x1 1 0 M29 _ _ _ hM hv hw (lv_sub hl [3, 4, 2, 1, 0] rfl)
          · intro v2 v3 M H locs ls hM hv hw hl
            exact J85 v2 v3 M _ _ _ hM hv hw (lv_sub hl [0, 1, 2] rfl)
  · have hv := hv.2 b2
    refine r_iconst hx hb dX12_readsCell_10 ?_
    exact k_iret (wq_M τ ad) hx hb hr hlk hw hM (by decide) hv dX12_readsCell_11
set_option maxHeartbeats 4000000 in
set_option maxRecDepth 100000 in
theorem mX12_readsHearse (l : Launch) (D : va_G) (τ : Nat → ClassId) (ad : Nat → Nat) (sA sV : Nat → Nat) (sz : Nat)   (M : Mem) (hM : MR M) (Q : Int → Mem → Prop) (hv : qX12_readsHearse  M Q) : Met l yX12_readsHearse (lw_w yX12_readsHearse cX12_readsHearse 2 (some .boolean)) (rmk 5 0 0) (kPc D τ sA sV (WM τ ad M) sz [.ref (ad 1)]) (gQi D (EQz (WM τ ad) MR Q) (va_A (WM τ ad M) sz)) 0 0 (va_A (WM τ ad M) sz) := by
  refine k_met (ret := (some .boolean)) (Qc := gQi D (EQz (WM τ ad) MR Q)) (by decide +kernel) (Nat.le_of_ble_eq_true rfl) ?_
  intro p e s m args below meth c A ls hx hb hml hr hlk hnm hC hLS hA hw hl
  have hC : cx D τ s m args RX12 := hC
  have hl : lv_has ls 2 [(0, .ref (ad 1))] := hl
  unfold qX12_readsHearse at hv
  refine lv_aload_n hx hb dX12_readsHearse_0 rfl (lv_at hl 0 rfl) ?_
  refine gf_X12_122 hx hb hC hw 1 (gM_1 τ ad M) rfl dX12_readsHearse_1 ?_
  refine r_top (fun x1 e1 => ?_)
  have g1 : iR x1 := by rw [e1]; exact hM.get (by decide) _
  have hv := hv x1 e1 g1
  refine lv_aload_n hx hb dX12_readsHearse_4 rfl (lv_at hl 0 rfl) ?_
  refine gf_X12_199 hx hb hC hw 1 (gM_1 τ ad M) rfl dX12_readsHearse_5 ?_
  refine r_top (fun x2 e2 => ?_)
  have g2 : iR x2 := by rw [e2]; exact hM.get (by decide) _
  have hv := hv x2 e2 g2
  refine r_iadd (z := (x1 + x2)) hx hb dX12_readsHearse_8 rfl ?_
  refine r_bipush hx hb dX12_readsHearse_9 (by decide +kernel) ?_
  obtain ⟨c3, hv⟩ := hv
  refine r_icmp_ne (tgt := 16) hx hb dX12_readsHearse_11 (by decide) c3 (by decide) (fun b4 => ?_) (fun b4 => ?_)
  · have hv := hv.1 b4
    refine lv_aload_n hx hb dX12_readsHearse_16 rfl (lv_at hl 0 rfl) ?_
    refine r_iconst hx hb dX12_readsHearse_17 ?_
    refine k_cVi (wq_M τ ad) hx hb hml hC hLS hA hw hl.1 (mX12_readsCell l D τ ad sA sV _ 1 (by decide) M hM _ hv) kX12_readsCell ml_X12_202 rfl (gM_1 τ ad M) rfl rfl (Nat.le_of_ble_eq_true rfl) (rm_ok (by decide) (by decide)) ⟨Nat.zero_le _, Nat.zero_le _⟩ dX12_readsHearse_18 (fun x5 M5 H locs g5 hM hv hw => ?_)
    have hv := hv g5
    refine lv_istore_n (lv' := [(1, .int (iI x5)), (0, .ref (ad 1))]) hx hb dX12_readsHearse_21 rfl hl (by decide) rfl (fun ls hl => ?_)
    refine lv_aload_n hx hb dX12_readsHearse_22 rfl (lv_at hl 1 rfl) ?_
    refine gf_X12_43 hx hb hC hw 1 (gM_1 τ ad M5) rfl dX12_readsHearse_23 ?_
    refine lv_aload_n hx hb dX12_readsHearse_26 rfl (lv_at hl 1 rfl) ?_
    refine gf_X12_199 hx hb hC hw 1 (gM_1 τ ad M5) rfl dX12_readsHearse_27 ?_
    refine r_top (fun x6 e6 => ?_)
    have g6 : iR x6 := by rw [e6]; exact hM.get (by decide) _
    have hv := hv x6 e6 g6
    refine lv_iload_n hx hb dX12_readsHearse_30 rfl (lv_at hl 0 rfl) ?_
    obtain ⟨c7, hv⟩ := hv
    obtain ⟨c8, hv⟩ := hv
    obtain ⟨M9, e9⟩ : ∃ M9 : Mem, M9 = up2 M5 9 x6 x5 := ⟨_, rfl⟩
    have hv := hv M9 e9
    refine r_iast (ws' := (WM τ ad M9)) hx hb hC hw 9 (gI_M aM_9 τ ad M5) c7 c8 (by decide) (by rw [e9]; exact sI_M aM_9 τ ad M5 _ _) dX12_readsHearse_31 (fun H locs hw => ?_)
    have hM : MR M9 := by rw [e9]; exact hM.put aM_9.pos g5
    refine lv_aload_n hx hb dX12_readsHearse_32 rfl (lv_at hl 1 rfl) ?_
    refine lv_dup hx hb dX12_readsHearse_33 rfl ?_
    refine gf_X12_199 hx hb hC hw 1 (gM_1 τ ad M9) rfl dX12_readsHearse_34 ?_
    refine r_top (fun x10 e10 => ?_)
    have g10 : iR x10 := by rw [e10]; exact hM.get (by decide) _
    have hv := hv x10 e10 g10
    refine r_iconst hx hb dX12_readsHearse_37 ?_
    refine r_iadd (z := (x10 + 1)) hx hb dX12_readsHearse_38 rfl ?_
    obtain ⟨c11, hv⟩ := hv
    obtain ⟨M12, e12⟩ : ∃ M12 : Mem, M12 = up2 M9 1 20 (x10 + 1) := ⟨_, rfl⟩
    have hv := hv M12 e12
    refine pf_X12_199 (ws' := (WM τ ad M12)) hx hb hC hw 1 (gM_1 τ ad M9) (Nat.le_of_ble_eq_true rfl) (by rw [e12]; exact sM_1_20 τ ad M9 _) dX12_readsHearse_39 (fun H locs hw => ?_)
    have hM : MR M12 := by rw [e12]; exact hM.put (by decide) c11
    refine lv_iload_n hx hb dX12_readsHearse_42 rfl (lv_at hl 0 rfl) ?_
    refine r_if_lt (tgt := 50) hx hb dX12_readsHearse_43 (by decide) g5  (fun b13 => ?_) (fun b13 => ?_)
    · have hv := hv.1 b13
      refine r_iconst hx hb dX12_readsHearse_50 ?_
      exact k_zret (wq_M τ ad) hx hb hr hlk hw hM (by decide) (by decide) hv dX12_readsHearse_51
    · have hv := hv.2 b13
      refine r_iconst hx hb dX12_readsHearse_46 ?_
      refine lv_goto (tgt := 51) hx hb dX12_readsHearse_47 (by decide) ?_
      exact k_zret (wq_M τ ad) hx hb hr hlk hw hM (by decide) (by decide) hv dX12_readsHearse_51
  · have hv := hv.2 b4
    refine r_iconst hx hb dX12_readsHearse_14 ?_
    exact k_zret (wq_M τ ad) hx hb hr hlk hw hM (by decide) (by decide) hv dX12_readsHearse_15
set_option maxHeartbeats 4000000 in
set_option maxRecDepth 100000 in
theorem mX12_takes (l : Launch) (D : va_G) (τ : Nat → ClassId) (ad : Nat → Nat) (sA sV : Nat → Nat) (sz : Nat) (p1 : Int) (hp1 : iR p1) (M : Mem) (hM : MR M) (Q : Int → Mem → Prop) (hv : qX12_takes p1 M Q) : Met l yX12_takes (lw_w yX12_takes cX12_takes 3 (some .boolean)) (rmk 2 0 0) (kPc D τ sA sV (WM τ ad M) sz [.ref (ad 1), .int (iI p1)]) (gQi D (EQz (WM τ ad) MR Q) (va_A (WM τ ad M) sz)) 0 0 (va_A (WM τ ad M) sz) := by
  refine k_met (ret := (some .boolean)) (Qc := gQi D (EQz (WM τ ad) MR Q)) (by decide +kernel) (Nat.le_of_ble_eq_true rfl) ?_
  intro p e s m args below meth c A ls hx hb hml hr hlk hnm hC hLS hA hw hl
  have hC : cx D τ s m args RX12 := hC
  have hl : lv_has ls 3 [(0, .ref (ad 1)), (1, .int (iI p1))] := hl
  unfold qX12_takes at hv
  have J29 : ∀ (t0 : Int) (M : Mem) (H : Heap) (locs : List Loc) (ls : Array Slot), MR M → qX12_takes_J29 p1 Q t0 M → wS D A s.heap (WM τ ad M) H locs → lv_has ls 3 [(0, .ref (ad 1))] → W p l e (rmk 2 0 0) s m args below meth c H locs 0 0 (MQ below (gQi D (EQz (WM τ ad) MR Q) A) args s 0 0 A) (F0 m 29 ls [.int (iI t0)]) := by
    intro t0 M H locs ls hM hv hw hl
    unfold qX12_takes_J29 at hv
    refine lv_istore_n (lv' := [(2, .int (iI t0)), (0, .ref (ad 1))]) hx hb dX12_takes_29 rfl hl (by decide) rfl (fun ls hl => ?_)
    refine lv_aload_n hx hb dX12_takes_30 rfl (lv_at hl 1 rfl) ?_
    refine lv_dup hx hb dX12_takes_31 rfl ?_
    refine gf_X12_139 hx hb hC hw 1 (gM_1 τ ad M) rfl dX12_takes_32 ?_
    refine r_top (fun x4 e4 => ?_)
    have g4 : iR x4 := by rw [e4]; exact hM.get (by decide) _
    have hv := hv x4 e4 g4
    refine lv_iload_n hx hb dX12_takes_35 rfl (lv_at hl 0 rfl) ?_
    obtain ⟨c5, hv⟩ := hv
    refine k_cSi (wq_M τ ad) hx hb hml hC hLS hA hw hl.1 (mX12_flag l D τ ad sA sV _ t0 c5 M hM _ hv) kX12_flag ml_X12_154 rfl rfl (Nat.le_of_ble_eq_true rfl) (rm_ok (by decide) (by decide)) ⟨Nat.zero_le _, Nat.zero_le _⟩ dX12_takes_36 (fun x6 M6 H locs g6 hM hv hw => ?_)
    have hv := hv g6
    refine r_iadd (z := (x4 + x6)) hx hb dX12_takes_39 rfl ?_
    obtain ⟨c7, hv⟩ := hv
    obtain ⟨M8, e8⟩ : ∃ M8 : Mem, M8 = up2 M6 1 15 (x4 + x6) := ⟨_, rfl⟩
    have hv := hv M8 e8
    refine pf_X12_139 (ws' := (WM τ ad M8)) hx hb hC hw 1 (gM_1 τ ad M6) (Nat.le_of_ble_eq_true rfl) (by rw [e8]; exact sM_1_15 τ ad M6 _) dX12_takes_40 (fun H locs hw => ?_)
    have hM : MR M8 := by rw [e8]; exact hM.put (by decide) c7
    refine lv_iload_n hx hb dX12_takes_43 rfl (lv_at hl 0 rfl) ?_
    obtain ⟨c9, hv⟩ := hv
    exact k_zret (wq_M τ ad) hx hb hr hlk hw hM c5 c9 hv dX12_takes_44
  have J28 : ∀  (M : Mem) (H : Heap) (locs : List Loc) (ls : Array Slot), MR M → qX12_takes_J28 p1 Q  M → wS D A s.heap (WM τ ad M) H locs → lv_has ls 3 [(0, .ref (ad 1))] → W p l e (rmk 2 0 0) s m args below meth c H locs 0 0 (MQ below (gQi D (EQz (WM τ ad) MR Q) A) args s 0 0 A) (F0 m 28 ls []) := by
    intro  M H locs ls hM hv hw hl
    unfold qX12_takes_J28 at hv
    refine r_iconst hx hb dX12_takes_28 ?_
    exact J29 0 M _ _ _ hM hv hw (lv_sub hl [0] rfl)
  refine lv_aload_n hx hb dX12_takes_0 rfl (lv_at hl 0 rfl) ?_
  refine gf_X12_139 hx hb hC hw 1 (gM_1 τ ad M) rfl dX12_takes_1 ?_
  refine r_top (fun x1 e1 => ?_)
  have g1 : iR x1 := by rw [e1]; exact hM.get (by decide) _
  have hv := hv x1 e1 g1
  refine lv_aload_n hx hb dX12_takes_4 rfl (lv_at hl 0 rfl) ?_
  refine gf_X12_151 hx hb hC hw 1 (gM_1 τ ad M) rfl dX12_takes_5 ?_
  refine r_top (fun x2 e2 => ?_)
  have g2 : iR x2 := by rw [e2]; exact hM.get (by decide) _
  have hv := hv x2 e2 g2
  refine r_icmp_ge (tgt := 28) hx hb dX12_takes_8 (by decide) g1 g2 (fun b3 => ?_) (fun b3 => ?_)
  · have hv := hv.1 b3
    exact J28  M _ _ _ hM hv hw (lv_sub hl [0] rfl)
  · have hv := hv.2 b3
    refine lv_aload_n hx hb dX12_takes_11 rfl (lv_at hl 0 rfl) ?_
    refine gf_X12_37 hx hb hC hw 1 (gM_1 τ ad M) rfl dX12_takes_12 ?_
    refine lv_aload_n hx hb dX12_takes_15 rfl (lv_at hl 0 rfl) ?_
    refine gf_X12_139 hx hb hC hw 1 (gM_1 τ ad M) rfl dX12_takes_16 ?_
    refine r_top (fun x10 e10 => ?_)
    have g10 : iR x10 := by rw [e10]; exact hM.get (by decide) _
    have hv := hv x10 e10 g10
    obtain ⟨c11, hv⟩ := hv
    obtain ⟨c12, hv⟩ := hv
    refine r_iald hx hb hC hw 7 (gI_M aM_7 τ ad M) c11 c12 (by decide) dX12_takes_19 ?_
    refine r_top (fun x13 e13 => ?_)
    have g13 : iR x13 := by rw [e13]; exact hM.get aM_7.pos _
    have hv := hv x13 e13 g13
    refine lv_iload_n hx hb dX12_takes_20 rfl (lv_at hl 1 rfl) ?_
    refine r_icmp_ne (tgt := 28) hx hb dX12_takes_21 (by decide) g13 hp1 (fun b14 => ?_) (fun b14 => ?_)
    · have hv := hv.1 b14
      exact J28  M _ _ _ hM hv hw (lv_sub hl [0] rfl)
    · have hv := hv.2 b14
      refine r_iconst hx hb dX12_takes_24 ?_
      refine lv_goto (tgt := 29) hx hb dX12_takes_25 (by decide) ?_
      exact J29 1 M _ _ _ hM hv hw (lv_sub hl [0] rfl)
set_option maxHeartbeats 4000000 in
set_option maxRecDepth 100000 in
theorem mX12_hearses (l : Launch) (D : va_G) (τ : Nat → ClassId) (ad : Nat → Nat) (sA sV : Nat → Nat) (sz : Nat)   (M : Mem) (hM : MR M) (Q : Int → Mem → Prop) (hv : qX12_hearses  M Q) : Met l yX12_hearses (lw_w yX12_hearses cX12_hearses 6 (some .int)) (rmk 6 0 0) (kPc D τ sA sV (WM τ ad M) sz [.ref (ad 1)]) (gQi D (EQi (WM τ ad) MR Q) (va_A (WM τ ad M) sz)) 0 0 (va_A (WM τ ad M) sz) := by
  refine k_met (ret := (some .int)) (Qc := gQi D (EQi (WM τ ad) MR Q)) (by decide +kernel) (Nat.le_of_ble_eq_true rfl) ?_
  intro p e s m args below meth c A ls hx hb hml hr hlk hnm hC hLS hA hw hl
  have hC : cx D τ s m args RX12 := hC
  have hl : lv_has ls 6 [(0, .ref (ad 1))] := hl
  unfold qX12_hearses at hv
  have L29 : ∀ (X60 : Int → Int → Mem → Prop), (∀ (v1 : Int) (v2 : Int) (M : Mem) (H : Heap) (locs : List Loc) (ls : Array Slot), MR M → X60 v1 v2 M → wS D A s.heap (WM τ ad M) H locs → lv_has ls 6 [(0, .ref (ad 1)), (1, .int (iI v1)), (2, .int (iI v2))] → W p l e (rmk 6 0 0) s m args below meth c H locs 0 0 (MQ below (gQi D (EQi (WM τ ad) MR Q) A) args s 0 0 A) (F0 m 60 ls [])) → ∀ (n : Nat) (v1 : Int) (v2 : Int) (v3 : Int) (M : Mem) (H : Heap) (locs : List Loc) (ls : Array Slot), MR M → qX12_hearses_L29  X60 Q n v1 v2 v3 M → wS D A s.heap (WM τ ad M) H locs → lv_has ls 6 [(0, .ref (ad 1)), (1, .int (iI v1)), (2, .int (iI v2)), (3, .int (iI v3))] → W p l e (rmk 6 0 0) s m args below meth c H locs 0 0 (MQ below (gQi D (EQi (WM τ ad) MR Q) A) args s 0 0 A) (F0 m 29 ls []) := by
    intro X60 hX60 n
    induction n with
    | zero => intro v1 v2 v3 M H locs ls hM hv; rw [qX12_hearses_L29] at hv; exact hv.elim
    | succ n ih =>
      intro v1 v2 v3 M H locs ls hM hv hw hl
      rw [qX12_hearses_L29] at hv
      refine lv_iload_n hx hb dX12_hearses_29 rfl (lv_at hl 3 rfl) ?_
      obtain ⟨c5, hv⟩ := hv
      refine r_if_eq (tgt := 60) hx hb dX12_hearses_30 (by decide) c5  (fun b6 => ?_) (fun b6 => ?_)
      · have hv := hv.1 b6
        exact hX60 v1 v2 M _ _ _ hM hv hw (lv_sub hl [0, 1, 2] rfl)
      · have hv := hv.2 b6
        refine lv_aload_n hx hb dX12_hearses_33 rfl (lv_at hl 0 rfl) ?_
        refine k_cVz (wq_M τ ad) hx hb hml hC hLS hA hw hl.1 (mX12_readsHearse l D τ ad sA sV _   M hM _ hv) kX12_readsHearse ml_X12_214 rfl (gM_1 τ ad M) rfl rfl (Nat.le_of_ble_eq_true rfl) (rm_ok (by decide) (by decide)) ⟨Nat.zero_le _, Nat.zero_le _⟩ dX12_hearses_34 (fun x7 M7 H locs g7 z7 hM hv hw => ?_)
        have hv := hv g7 z7
        refine lv_istore_n (lv' := [(2, .int (iI x7)), (0, .ref (ad 1)), (1, .int (iI v1)), (3, .int (iI v3))]) hx hb dX12_hearses_37 rfl hl (by decide) rfl (fun ls hl => ?_)
        refine lv_iload_n hx hb dX12_hearses_38 rfl (lv_at hl 0 rfl) ?_
        refine r_if_eq (tgt := 55) hx hb dX12_hearses_39 (by decide) g7  (fun b8 => ?_) (fun b8 => ?_)
        · have hv := hv.1 b8
          refine r_iconst hx hb dX12_hearses_55 ?_
          refine lv_istore_n (lv' := [(3, .int (iI 0)), (2, .int (iI x7)), (0, .ref (ad 1)), (1, .int (iI v1))]) hx hb dX12_hearses_56 rfl hl (by decide) rfl (fun ls hl => ?_)
          refine lv_goto (tgt := 29) hx hb dX12_hearses_57 (by decide) ?_
          exact ih v1 x7 0 M7 _ _ _ hM hv hw (lv_sub hl [2, 3, 1, 0] rfl)
        · have hv := hv.2 b8
          refine lv_aload_n hx hb dX12_hearses_42 rfl (lv_at hl 1 rfl) ?_
          refine r_bipush hx hb dX12_hearses_43 (by decide +kernel) ?_
          refine k_cVz (wq_M τ ad) hx hb hml hC hLS hA hw hl.1 (mX12_takes l D τ ad sA sV _ 59 (by decide) M7 hM _ hv) kX12_takes ml_X12_217 rfl (gM_1 τ ad M7) rfl rfl (Nat.le_of_ble_eq_true rfl) (rm_ok (by decide) (by decide)) ⟨Nat.zero_le _, Nat.zero_le _⟩ dX12_hearses_45 (fun x9 M9 H locs g9 z9 hM hv hw => ?_)
          have hv := hv g9 z9
          refine r_if_eq (tgt := 55) hx hb dX12_hearses_48 (by decide) g9  (fun b10 => ?_) (fun b10 => ?_)
          · have hv := hv.1 b10
            refine r_iconst hx hb dX12_hearses_55 ?_
            refine lv_istore_n (lv' := [(3, .int (iI 0)), (2, .int (iI x7)), (0, .ref (ad 1)), (1, .int (iI v1))]) hx hb dX12_hearses_56 rfl hl (by decide) rfl (fun ls hl => ?_)
            refine lv_goto (tgt := 29) hx hb dX12_hearses_57 (by decide) ?_
            exact ih v1 x7 0 M9 _ _ _ hM hv hw (lv_sub hl [2, 3, 1, 0] rfl)
          · have hv := hv.2 b10
            refine r_iconst hx hb dX12_hearses_51 ?_
            refine lv_goto (tgt := 56) hx hb dX12_hearses_52 (by decide) ?_
            refine lv_istore_n (lv' := [(3, .int (iI 1)), (2, .int (iI x7)), (0, .ref (ad 1)), (1, .int (iI v1))]) hx hb dX12_hearses_56 rfl hl (by decide) rfl (fun ls hl => ?_)
            refine lv_goto (tgt := 29) hx hb dX12_hearses_57 (by decide) ?_
            exact ih v1 x7 1 M9 _ _ _ hM hv hw (lv_sub hl [2, 3, 1, 0] rfl)
  have L81 : ∀ (X135 : Mem → Prop), (∀  (M : Mem) (H : Heap) (locs : List Loc) (ls : Array Slot), MR M → X135  M → wS D A s.heap (WM τ ad M) H locs → lv_has ls 6 [(0, .ref (ad 1))] → W p l e (rmk 6 0 0) s m args below meth c H locs 0 0 (MQ below (gQi D (EQi (WM τ ad) MR Q) A) args s 0 0 A) (F0 m 135 ls [])) → ∀ (n : Nat) (v5 : Int) (M : Mem) (H : Heap) (locs : List Loc) (ls : Array Slot), MR M → qX12_hearses_L81  X135 Q n v5 M → wS D A s.heap (WM τ ad M) H locs → lv_has ls 6 [(0, .ref (ad 1)), (5, .int (iI v5))] → W p l e (rmk 6 0 0) s m args below meth c H locs 0 0 (MQ below (gQi D (EQi (WM τ ad) MR Q) A) args s 0 0 A) (F0 m 81 ls []) := by
    intro X135 hX135 n
    induction n with
    | zero => intro v5 M H locs ls hM hv; rw [qX12_hearses_L81] at hv; exact hv.elim
    | succ n ih =>
      intro v5 M H locs ls hM hv hw hl
      rw [qX12_hearses_L81] at hv
      refine lv_iload hx hb dX12_hearses_81 (lv_at hl 1 rfl) ?_
      refine lv_aload_n hx hb dX12_hearses_83 rfl (lv_at hl 0 rfl) ?_
      refine gf_X12_199 hx hb hC hw 1 (gM_1 τ ad M) rfl dX12_hearses_84 ?_
      refine r_top (fun x16 e16 => ?_)
      have g16 : iR x16 := by rw [e16]; exact hM.get (by decide) _
      have hv := hv x16 e16 g16
      obtain ⟨c17, hv⟩ := hv
      refine r_icmp_ge (tgt := 135) hx hb dX12_hearses_87 (by decide) c17 g16 (fun b18 => ?_) (fun b18 => ?_)
      · have hv := hv.1 b18
        exact hX135  M _ _ _ hM hv hw (lv_sub hl [0] rfl)
      · have hv := hv.2 b18
        refine lv_aload_n hx hb dX12_hearses_90 rfl (lv_at hl 0 rfl) ?_
        refine gf_X12_31 hx hb hC hw 1 (gM_1 τ ad M) rfl dX12_hearses_91 ?_
        refine lv_aload_n hx hb dX12_hearses_94 rfl (lv_at hl 0 rfl) ?_
        refine gf_X12_122 hx hb hC hw 1 (gM_1 τ ad M) rfl dX12_hearses_95 ?_
        refine r_top (fun x19 e19 => ?_)
        have g19 : iR x19 := by rw [e19]; exact hM.get (by decide) _
        have hv := hv x19 e19 g19
        refine lv_aload_n hx hb dX12_hearses_98 rfl (lv_at hl 0 rfl) ?_
        refine gf_X12_43 hx hb hC hw 1 (gM_1 τ ad M) rfl dX12_hearses_99 ?_
        refine lv_iload hx hb dX12_hearses_102 (lv_at hl 1 rfl) ?_
        obtain ⟨c20, hv⟩ := hv
        obtain ⟨c21, hv⟩ := hv
        refine r_iald hx hb hC hw 9 (gI_M aM_9 τ ad M) c20 c21 (by decide) dX12_hearses_104 ?_
        refine r_top (fun x22 e22 => ?_)
        have g22 : iR x22 := by rw [e22]; exact hM.get aM_9.pos _
        have hv := hv x22 e22 g22
        obtain ⟨c23, hv⟩ := hv
        obtain ⟨c24, hv⟩ := hv
        obtain ⟨M25, e25⟩ : ∃ M25 : Mem, M25 = up2 M 5 x19 x22 := ⟨_, rfl⟩
        have hv := hv M25 e25
        refine r_iast (ws' := (WM τ ad M25)) hx hb hC hw 5 (gI_M aM_5 τ ad M) c23 c24 (by decide) (by rw [e25]; exact sI_M aM_5 τ ad M _ _) dX12_hearses_105 (fun H locs hw => ?_)
        have hM : MR M25 := by rw [e25]; exact hM.put aM_5.pos g22
        refine lv_aload_n hx hb dX12_hearses_106 rfl (lv_at hl 0 rfl) ?_
        refine gf_X12_31 hx hb hC hw 1 (gM_1 τ ad M25) rfl dX12_hearses_107 ?_
        refine r_bipush hx hb dX12_hearses_110 (by decide +kernel) ?_
        refine lv_aload_n hx hb dX12_hearses_112 rfl (lv_at hl 0 rfl) ?_
        refine gf_X12_122 hx hb hC hw 1 (gM_1 τ ad M25) rfl dX12_hearses_113 ?_
        refine r_top (fun x26 e26 => ?_)
        have g26 : iR x26 := by rw [e26]; exact hM.get (by decide) _
        have hv := hv x26 e26 g26
        refine r_iadd (z := (6 + x26)) hx hb dX12_hearses_116 rfl ?_
        refine r_iconst hx hb dX12_hearses_117 ?_
        obtain ⟨c27, hv⟩ := hv
        obtain ⟨c28, hv⟩ := hv
        obtain ⟨M29, e29⟩ : ∃ M29 : Mem, M29 = up2 M25 5 (6 + x26) 0 := ⟨_, rfl⟩
        have hv := hv M29 e29
        refine r_iast (ws' := (WM τ ad M29)) hx hb hC hw 5 (gI_M aM_5 τ ad M25) c27 c28 (by decide) (by rw [e29]; exact sI_M aM_5 τ ad M25 _ _) dX12_hearses_118 (fun H locs hw => ?_)
        have hM : MR M29 := by rw [e29]; exact hM.put aM_5.pos (by decide)
        refine lv_aload_n hx hb dX12_hearses_119 rfl (lv_at hl 0 rfl) ?_
        refine lv_dup hx hb dX12_hearses_120 rfl ?_
        refine gf_X12_122 hx hb hC hw 1 (gM_1 τ ad M29) rfl dX12_hearses_121 ?_
        refine r_top (fun x30 e30 => ?_)
        have g30 : iR x30 := by rw [e30]; exact hM.get (by decide) _
        have hv := hv x30 e30 g30
        refine r_iconst hx hb dX12_hearses_124 ?_
        refine r_iadd (z := (x30 + 1)) hx hb dX12_hearses_125 rfl ?_
        obtain ⟨c31, hv⟩ := hv
        obtain ⟨M32, e32⟩ : ∃ M32 : Mem, M32 = up2 M29 1 4 (x30 + 1) := ⟨_, rfl⟩
        have hv := hv M32 e32
        refine pf_X12_122 (ws' := (WM τ ad M32)) hx hb hC hw 1 (gM_1 τ ad M29) (Nat.le_of_ble_eq_true rfl) (by rw [e32]; exact sM_1_4 τ ad M29 _) dX12_hearses_126 (fun H locs hw => ?_)
        have hM : MR M32 := by rw [e32]; exact hM.put (by decide) c31
        refine r_iinc (v := (v5 + 1)) (lv' := [(5, .int (iI (v5 + 1))), (0, .ref (ad 1))]) hx hb dX12_hearses_129 hl (k := 1) rfl rfl (by decide) rfl (fun ls hl => ?_)
        refine lv_goto (tgt := 81) hx hb dX12_hearses_132 (by decide) ?_
        exact ih (v5 + 1) M32 _ _ _ hM hv hw (lv_sub hl [1, 0] rfl)
  refine lv_aload_n hx hb dX12_hearses_0 rfl (lv_at hl 0 rfl) ?_
  refine r_iconst hx hb dX12_hearses_1 ?_
  obtain ⟨M1, e1⟩ : ∃ M1 : Mem, M1 = up2 M 1 0 0 := ⟨_, rfl⟩
  have hv := hv M1 e1
  refine pf_X12_112 (ws' := (WM τ ad M1)) hx hb hC hw 1 (gM_1 τ ad M) (Nat.le_of_ble_eq_true rfl) (by rw [e1]; exact sM_1_0 τ ad M _) dX12_hearses_2 (fun H locs hw => ?_)
  have hM : MR M1 := by rw [e1]; exact hM.put (by decide) (by decide)
  refine lv_aload_n hx hb dX12_hearses_5 rfl (lv_at hl 0 rfl) ?_
  refine r_bipush hx hb dX12_hearses_6 (by decide +kernel) ?_
  refine k_cVi (wq_M τ ad) hx hb hml hC hLS hA hw hl.1 (mX12_begins l D τ ad sA sV _ 17 (by decide) M1 hM _ hv) kX12_begins ml_X12_176 rfl (gM_1 τ ad M1) rfl rfl (Nat.le_of_ble_eq_true rfl) (rm_ok (by decide) (by decide)) ⟨Nat.zero_le _, Nat.zero_le _⟩ dX12_hearses_8 (fun x2 M2 H locs g2 hM hv hw => ?_)
  have hv := hv g2
  refine lv_istore_n (lv' := [(1, .int (iI x2)), (0, .ref (ad 1))]) hx hb dX12_hearses_11 rfl hl (by decide) rfl (fun ls hl => ?_)
  refine lv_aload_n hx hb dX12_hearses_12 rfl (lv_at hl 1 rfl) ?_
  refine r_iconst hx hb dX12_hearses_13 ?_
  obtain ⟨M3, e3⟩ : ∃ M3 : Mem, M3 = up2 M2 1 20 0 := ⟨_, rfl⟩
  have hv := hv M3 e3
  refine pf_X12_199 (ws' := (WM τ ad M3)) hx hb hC hw 1 (gM_1 τ ad M2) (Nat.le_of_ble_eq_true rfl) (by rw [e3]; exact sM_1_20 τ ad M2 _) dX12_hearses_14 (fun H locs hw => ?_)
  have hM : MR M3 := by rw [e3]; exact hM.put (by decide) (by decide)
  refine r_iconst hx hb dX12_hearses_17 ?_
  refine lv_istore_n (lv' := [(2, .int (iI 1)), (1, .int (iI x2)), (0, .ref (ad 1))]) hx hb dX12_hearses_18 rfl hl (by decide) rfl (fun ls hl => ?_)
  refine lv_iload_n hx hb dX12_hearses_19 rfl (lv_at hl 1 rfl) ?_
  refine r_if_le (tgt := 27) hx hb dX12_hearses_20 (by decide) g2  (fun b4 => ?_) (fun b4 => ?_)
  · have hv := hv.1 b4
    refine r_iconst hx hb dX12_hearses_27 ?_
    refine lv_istore_n (lv' := [(3, .int (iI 0)), (2, .int (iI 1)), (1, .int (iI x2)), (0, .ref (ad 1))]) hx hb dX12_hearses_28 rfl hl (by decide) rfl (fun ls hl => ?_)
    obtain ⟨n11, hv⟩ := hv
    refine L29 _ ?_ n11 x2 1 0 M3 _ _ _ hM hv hw (lv_sub hl [3, 2, 1, 0] rfl)
    · intro v1 v2 M H locs ls hM hv hw hl
      refine lv_aload_n hx hb dX12_hearses_60 rfl (lv_at hl 0 rfl) ?_
      refine lv_iload_n hx hb dX12_hearses_61 rfl (lv_at hl 1 rfl) ?_
      refine r_bipush hx hb dX12_hearses_62 (by decide +kernel) ?_
      refine lv_iload_n hx hb dX12_hearses_64 rfl (lv_at hl 2 rfl) ?_
      obtain ⟨c12, hv⟩ := hv
      obtain ⟨c13, hv⟩ := hv
      refine k_cVi (wq_M τ ad) hx hb hml hC hLS hA hw hl.1 (mX12_faultOf l D τ ad sA sV _ v1 17 v2 c12 (by decide) c13 M hM _ hv) kX12_faultOf ml_X12_221 rfl (gM_1 τ ad M) rfl rfl (Nat.le_of_ble_eq_true rfl) (rm_ok (by decide) (by decide)) ⟨Nat.zero_le _, Nat.zero_le _⟩ dX12_hearses_65 (fun x14 M14 H locs g14 hM hv hw => ?_)
      have hv := hv g14
      refine lv_istore (lv' := [(4, .int (iI x14)), (0, .ref (ad 1)), (1, .int (iI v1)), (2, .int (iI v2))]) hx hb dX12_hearses_68 hl (by decide) rfl (fun ls hl => ?_)
      refine lv_iload hx hb dX12_hearses_70 (lv_at hl 0 rfl) ?_
      refine r_if_ge (tgt := 78) hx hb dX12_hearses_72 (by decide) g14  (fun b15 => ?_) (fun b15 => ?_)
      · have hv := hv.1 b15
        refine r_iconst hx hb dX12_hearses_78 ?_
        refine lv_istore (lv' := [(5, .int (iI 0)), (4, .int (iI x14)), (0, .ref (ad 1)), (1, .int (iI v1)), (2, .int (iI v2))]) hx hb dX12_hearses_79 hl (by decide) rfl (fun ls hl => ?_)
        obtain ⟨n33, hv⟩ := hv
        refine L81 _ ?_ n33 0 M14 _ _ _ hM hv hw (lv_sub hl [2, 0] rfl)
        · intro  M H locs ls hM hv hw hl
          refine lv_aload_n hx hb dX12_hearses_135 rfl (lv_at hl 0 rfl) ?_
          refine k_cVi (wq_M τ ad) hx hb hml hC hLS hA hw hl.1 (mX12_isNew l D τ ad sA sV _   M hM _ hv) kX12_isNew ml_X12_225 rfl (gM_1 τ ad M) rfl rfl (Nat.le_of_ble_eq_true rfl) (rm_ok (by decide) (by decide)) ⟨Nat.zero_le _, Nat.zero_le _⟩ dX12_hearses_136 (fun x34 M34 H locs g34 hM hv hw => ?_)
          have hv := hv g34
          exact k_iret (wq_M τ ad) hx hb hr hlk hw hM g34 hv dX12_hearses_139
      · have hv := hv.2 b15
        refine lv_iload hx hb dX12_hearses_75 (lv_at hl 0 rfl) ?_
        exact k_iret (wq_M τ ad) hx hb hr hlk hw hM g14 hv dX12_hearses_77
  · have hv := hv.2 b4
    refine r_iconst hx hb dX12_hearses_23 ?_
    refine lv_goto (tgt := 28) hx hb dX12_hearses_24 (by decide) ?_
    refine lv_istore_n (lv' := [(3, .int (iI 1)), (2, .int (iI 1)), (1, .int (iI x2)), (0, .ref (ad 1))]) hx hb dX12_hearses_28 rfl hl (by decide) rfl (fun ls hl => ?_)
    obtain ⟨n35, hv⟩ := hv
    refine L29 _ ?_ n35 x2 1 1 M3 _ _ _ hM hv hw (lv_sub hl [3, 2, 1, 0] rfl)
    · intro v1 v2 M H locs ls hM hv hw hl
      refine lv_aload_n hx hb dX12_hearses_60 rfl (lv_at hl 0 rfl) ?_
      refine lv_iload_n hx hb dX12_hearses_61 rfl (lv_at hl 1 rfl) ?_
      refine r_bipush hx hb dX12_hearses_62 (by decide +kernel) ?_
      refine lv_iload_n hx hb dX12_hearses_64 rfl (lv_at hl 2 rfl) ?_
      obtain ⟨c36, hv⟩ := hv
      obtain ⟨c37, hv⟩ := hv
      refine k_cVi (wq_M τ ad) hx hb hml hC hLS hA hw hl.1 (mX12_faultOf l D τ ad sA sV _ v1 17 v2 c36 (by decide) c37 M hM _ hv) kX12_faultOf ml_X12_221 rfl (gM_1 τ ad M) rfl rfl (Nat.le_of_ble_eq_true rfl) (rm_ok (by decide) (by decide)) ⟨Nat.zero_le _, Nat.zero_le _⟩ dX12_hearses_65 (fun x38 M38 H locs g38 hM hv hw => ?_)
      have hv := hv g38
      refine lv_istore (lv' := [(4, .int (iI x38)), (0, .ref (ad 1)), (1, .int (iI v1)), (2, .int (iI v2))]) hx hb dX12_hearses_68 hl (by decide) rfl (fun ls hl => ?_)
      refine lv_iload hx hb dX12_hearses_70 (lv_at hl 0 rfl) ?_
      refine r_if_ge (tgt := 78) hx hb dX12_hearses_72 (by decide) g38  (fun b39 => ?_) (fun b39 => ?_)
      · have hv := hv.1 b39
        refine r_iconst hx hb dX12_hearses_78 ?_
        refine lv_istore (lv' := [(5, .int (iI 0)), (4, .int (iI x38)), (0, .ref (ad 1)), (1, .int (iI v1)), (2, .int (iI v2))]) hx hb dX12_hearses_79 hl (by decide) rfl (fun ls hl => ?_)
        obtain ⟨n40, hv⟩ := hv
        refine L81 _ ?_ n40 0 M38 _ _ _ hM hv hw (lv_sub hl [2, 0] rfl)
        · intro  M H locs ls hM hv hw hl
          refine lv_aload_n hx hb dX12_hearses_135 rfl (lv_at hl 0 rfl) ?_
          refine k_cVi (wq_M τ ad) hx hb hml hC hLS hA hw hl.1 (mX12_isNew l D τ ad sA sV _   M hM _ hv) kX12_isNew ml_X12_225 rfl (gM_1 τ ad M) rfl rfl (Nat.le_of_ble_eq_true rfl) (rm_ok (by decide) (by decide)) ⟨Nat.zero_le _, Nat.zero_le _⟩ dX12_hearses_136 (fun x41 M41 H locs g41 hM hv hw => ?_)
          have hv := hv g41
          exact k_iret (wq_M τ ad) hx hb hr hlk hw hM g41 hv dX12_hearses_139
      · have hv := hv.2 b39
        refine lv_iload hx hb dX12_hearses_75 (lv_at hl 0 rfl) ?_
        exact k_iret (wq_M τ ad) hx hb hr hlk hw hM g38 hv dX12_hearses_77
set_option maxHeartbeats 4000000 in
set_option maxRecDepth 100000 in
theorem mX12_readsMourner (l : Launch) (D : va_G) (τ : Nat → ClassId) (ad : Nat → Nat) (sA sV : Nat → Nat) (sz : Nat)   (M : Mem) (hM : MR M) (Q : Int → Mem → Prop) (hv : qX12_readsMourner  M Q) : Met l yX12_readsMourner (lw_w yX12_readsMourner cX12_readsMourner 2 (some .boolean)) (rmk 6 2 12) (kPc D τ sA sV (WM τ ad M) sz [.ref (ad 1)]) (gQi D (EQz (WM τ ad) MR Q) (va_A (WM τ ad M) sz)) 2 12 (va_A (WM τ ad M) sz) := by
  refine k_met (ret := (some .boolean)) (Qc := gQi D (EQz (WM τ ad) MR Q)) (by decide +kernel) (Nat.le_of_ble_eq_true rfl) ?_
  intro p e s m args below meth c A ls hx hb hml hr hlk hnm hC hLS hA hw hl
  have hC : cx D τ s m args RX12 := hC
  have hl : lv_has ls 2 [(0, .ref (ad 1))] := hl
  unfold qX12_readsMourner at hv
  have J68 : ∀ (t0 : Int) (t1 : Int) (M : Mem) (H : Heap) (locs : List Loc) (ls : Array Slot), MR M → qX12_readsMourner_J68  Q t0 t1 M → wS D A s.heap (WM τ ad M) H locs → lv_has ls 2 [(0, .ref (ad 1))] → W p l e (rmk 6 2 12) s m args below meth c H locs 2 12 (MQ below (gQi D (EQz (WM τ ad) MR Q) A) args s 2 12 A) (F0 m 68 ls [.int (iI t0), .int (iI t1), .ref (ad 9)]) := by
    intro t0 t1 M H locs ls hM hv hw hl
    unfold qX12_readsMourner_J68 at hv
    obtain ⟨c17, hv⟩ := hv
    obtain ⟨c18, hv⟩ := hv
    obtain ⟨c19, hv⟩ := hv
    obtain ⟨M20, e20⟩ : ∃ M20 : Mem, M20 = up2 M 9 t1 t0 := ⟨_, rfl⟩
    have hv := hv M20 e20
    refine r_iast (ws' := (WM τ ad M20)) hx hb hC hw 9 (gI_M aM_9 τ ad M) c17 c18 (by decide) (by rw [e20]; exact sI_M aM_9 τ ad M _ _) dX12_readsMourner_68 (fun H locs hw => ?_)
    have hM : MR M20 := by rw [e20]; exact hM.put aM_9.pos c19
    refine lv_aload_n hx hb dX12_readsMourner_69 rfl (lv_at hl 0 rfl) ?_
    refine lv_dup hx hb dX12_readsMourner_70 rfl ?_
    refine gf_X12_199 hx hb hC hw 1 (gM_1 τ ad M20) rfl dX12_readsMourner_71 ?_
    refine r_top (fun x21 e21 => ?_)
    have g21 : iR x21 := by rw [e21]; exact hM.get (by decide) _
    have hv := hv x21 e21 g21
    refine r_iconst hx hb dX12_readsMourner_74 ?_
    refine r_iadd (z := (x21 + 1)) hx hb dX12_readsMourner_75 rfl ?_
    obtain ⟨c22, hv⟩ := hv
    obtain ⟨M23, e23⟩ : ∃ M23 : Mem, M23 = up2 M20 1 20 (x21 + 1) := ⟨_, rfl⟩
    have hv := hv M23 e23
    refine pf_X12_199 (ws' := (WM τ ad M23)) hx hb hC hw 1 (gM_1 τ ad M20) (Nat.le_of_ble_eq_true rfl) (by rw [e23]; exact sM_1_20 τ ad M20 _) dX12_readsMourner_76 (fun H locs hw => ?_)
    have hM : MR M23 := by rw [e23]; exact hM.put (by decide) c22
    refine lv_aload_n hx hb dX12_readsMourner_79 rfl (lv_at hl 0 rfl) ?_
    refine gf_X12_43 hx hb hC hw 1 (gM_1 τ ad M23) rfl dX12_readsMourner_80 ?_
    refine r_iconst hx hb dX12_readsMourner_83 ?_
    refine lv_aload_n hx hb dX12_readsMourner_84 rfl (lv_at hl 0 rfl) ?_
    refine gf_X12_199 hx hb hC hw 1 (gM_1 τ ad M23) rfl dX12_readsMourner_85 ?_
    refine r_top (fun x24 e24 => ?_)
    have g24 : iR x24 := by rw [e24]; exact hM.get (by decide) _
    have hv := hv x24 e24 g24
    refine r_imul (z := (2 * x24)) hx hb dX12_readsMourner_88 rfl ?_
    refine r_iconst hx hb dX12_readsMourner_89 ?_
    refine r_isub (z := ((2 * x24) - 1)) hx hb dX12_readsMourner_90 rfl ?_
    obtain ⟨c25, hv⟩ := hv
    obtain ⟨c26, hv⟩ := hv
    refine r_iald hx hb hC hw 9 (gI_M aM_9 τ ad M23) c25 c26 (by decide) dX12_readsMourner_91 ?_
    refine r_top (fun x27 e27 => ?_)
    have g27 : iR x27 := by rw [e27]; exact hM.get aM_9.pos _
    have hv := hv x27 e27 g27
    refine r_if_lt (tgt := 99) hx hb dX12_readsMourner_92 (by decide) g27  (fun b28 => ?_) (fun b28 => ?_)
    · have hv := hv.1 b28
      refine r_iconst hx hb dX12_readsMourner_99 ?_
      exact k_zret (wq_M τ ad) hx hb hr hlk hw hM (by decide) (by decide) hv dX12_readsMourner_100
    · have hv := hv.2 b28
      refine r_iconst hx hb dX12_readsMourner_95 ?_
      refine lv_goto (tgt := 100) hx hb dX12_readsMourner_96 (by decide) ?_
      exact k_zret (wq_M τ ad) hx hb hr hlk hw hM (by decide) (by decide) hv dX12_readsMourner_100
  refine lv_aload_n hx hb dX12_readsMourner_0 rfl (lv_at hl 0 rfl) ?_
  refine gf_X12_129 hx hb hC hw 1 (gM_1 τ ad M) rfl dX12_readsMourner_1 ?_
  refine r_top (fun x1 e1 => ?_)
  have g1 : iR x1 := by rw [e1]; exact hM.get (by decide) _
  have hv := hv x1 e1 g1
  refine lv_aload_n hx hb dX12_readsMourner_4 rfl (lv_at hl 0 rfl) ?_
  refine gf_X12_199 hx hb hC hw 1 (gM_1 τ ad M) rfl dX12_readsMourner_5 ?_
  refine r_top (fun x2 e2 => ?_)
  have g2 : iR x2 := by rw [e2]; exact hM.get (by decide) _
  have hv := hv x2 e2 g2
  refine r_iadd (z := (x1 + x2)) hx hb dX12_readsMourner_8 rfl ?_
  refine r_bipush hx hb dX12_readsMourner_9 (by decide +kernel) ?_
  obtain ⟨c3, hv⟩ := hv
  refine r_icmp_ne (tgt := 16) hx hb dX12_readsMourner_11 (by decide) c3 (by decide) (fun b4 => ?_) (fun b4 => ?_)
  · have hv := hv.1 b4
    refine lv_aload_n hx hb dX12_readsMourner_16 rfl (lv_at hl 0 rfl) ?_
    refine r_iconst hx hb dX12_readsMourner_17 ?_
    refine k_cVi (wq_M τ ad) hx hb hml hC hLS hA hw hl.1 (mX12_readsCell l D τ ad sA sV _ 0 (by decide) M hM _ hv) kX12_readsCell ml_X12_202 rfl (gM_1 τ ad M) rfl rfl (Nat.le_of_ble_eq_true rfl) (rm_ok (by decide) (by decide)) ⟨by show _ ≤ 2; omega, by show _ ≤ 12; omega⟩ dX12_readsMourner_18 (fun x5 M5 H locs g5 hM hv hw => ?_)
    have hv := hv g5
    refine lv_istore_n (lv' := [(1, .int (iI x5)), (0, .ref (ad 1))]) hx hb dX12_readsMourner_21 rfl hl (by decide) rfl (fun ls hl => ?_)
    refine lv_aload_n hx hb dX12_readsMourner_22 rfl (lv_at hl 1 rfl) ?_
    refine gf_X12_43 hx hb hC hw 1 (gM_1 τ ad M5) rfl dX12_readsMourner_23 ?_
    refine r_iconst hx hb dX12_readsMourner_26 ?_
    refine lv_aload_n hx hb dX12_readsMourner_27 rfl (lv_at hl 1 rfl) ?_
    refine gf_X12_199 hx hb hC hw 1 (gM_1 τ ad M5) rfl dX12_readsMourner_28 ?_
    refine r_top (fun x6 e6 => ?_)
    have g6 : iR x6 := by rw [e6]; exact hM.get (by decide) _
    have hv := hv x6 e6 g6
    refine r_imul (z := (2 * x6)) hx hb dX12_readsMourner_31 rfl ?_
    refine lv_iload_n hx hb dX12_readsMourner_32 rfl (lv_at hl 0 rfl) ?_
    obtain ⟨c7, hv⟩ := hv
    obtain ⟨c8, hv⟩ := hv
    obtain ⟨M9, e9⟩ : ∃ M9 : Mem, M9 = up2 M5 9 (2 * x6) x5 := ⟨_, rfl⟩
    have hv := hv M9 e9
    refine r_iast (ws' := (WM τ ad M9)) hx hb hC hw 9 (gI_M aM_9 τ ad M5) c7 c8 (by decide) (by rw [e9]; exact sI_M aM_9 τ ad M5 _ _) dX12_readsMourner_33 (fun H locs hw => ?_)
    have hM : MR M9 := by rw [e9]; exact hM.put aM_9.pos g5
    refine lv_aload_n hx hb dX12_readsMourner_34 rfl (lv_at hl 1 rfl) ?_
    refine gf_X12_43 hx hb hC hw 1 (gM_1 τ ad M9) rfl dX12_readsMourner_35 ?_
    refine r_iconst hx hb dX12_readsMourner_38 ?_
    refine lv_aload_n hx hb dX12_readsMourner_39 rfl (lv_at hl 1 rfl) ?_
    refine gf_X12_199 hx hb hC hw 1 (gM_1 τ ad M9) rfl dX12_readsMourner_40 ?_
    refine r_top (fun x10 e10 => ?_)
    have g10 : iR x10 := by rw [e10]; exact hM.get (by decide) _
    have hv := hv x10 e10 g10
    refine r_imul (z := (2 * x10)) hx hb dX12_readsMourner_43 rfl ?_
    refine r_iconst hx hb dX12_readsMourner_44 ?_
    refine r_iadd (z := ((2 * x10) + 1)) hx hb dX12_readsMourner_45 rfl ?_
    refine lv_iload_n hx hb dX12_readsMourner_46 rfl (lv_at hl 0 rfl) ?_
    refine r_if_ge (tgt := 54) hx hb dX12_readsMourner_47 (by decide) g5  (fun b11 => ?_) (fun b11 => ?_)
    · have hv := hv.1 b11
      refine lv_aload_n hx hb dX12_readsMourner_54 rfl (lv_at hl 1 rfl) ?_
      refine va_ldcS hx hb hC.2.1 (hLS.str_2) dX12_readsMourner_55 ?_
      refine r_iconst hx hb dX12_readsMourner_57 ?_
      refine lv_aload_n hx hb dX12_readsMourner_58 rfl (lv_at hl 1 rfl) ?_
      refine gf_X12_122 hx hb hC hw 1 (gM_1 τ ad M9) rfl dX12_readsMourner_59 ?_
      refine r_top (fun x12 e12 => ?_)
      have g12 : iR x12 := by rw [e12]; exact hM.get (by decide) _
      have hv := hv x12 e12 g12
      obtain ⟨c13, hv⟩ := hv
      obtain ⟨c14, hv⟩ := hv
      refine k_substr (wq_M τ ad) hx hb hml hC hLS hA hw hl.1 (hLS.1 2 (by decide)).2 (by decide) c13 c14 ml_X12_207 (Nat.le_of_ble_eq_true rfl) (rm_ok (lev := 5) (by decide) (by decide)) ⟨by decide, by decide⟩ rfl rfl dX12_readsMourner_62 (fun a15 b15 H locs hN15 hw => ?_)
      refine k_tcViH (wq_M τ ad) hx hb hml hC hLS hA hw hl.1 hN15 (mX12_takesOf l D τ ad sA sV _ a15 b15 ((bS 2).take x12.toNat) M9 hM _ hv) kX12_takesOf ml_X12_182 rfl (gM_1 τ ad M9) rfl rfl (Nat.le_of_ble_eq_true rfl) (rm_ok (by decide) (by decide)) ⟨by show _ ≤ 2; omega, by show _ ≤ 12; omega⟩ dX12_readsMourner_65 (fun x16 M16 H locs g16 hM hv hw => ?_)
      have hv := hv g16
      exact J68 x16 ((2 * x10) + 1) M16 _ _ _ hM hv hw (lv_sub hl [1] rfl)
    · have hv := hv.2 b11
      refine r_iconst hx hb dX12_readsMourner_50 ?_
      refine lv_goto (tgt := 68) hx hb dX12_readsMourner_51 (by decide) ?_
      refine W.widen (k := 2) (n := 12) (by omega) (by omega) ?_
      exact J68 (-1) ((2 * x10) + 1) M9 _ _ _ hM hv hw (lv_sub hl [1] rfl)
  · have hv := hv.2 b4
    refine r_iconst hx hb dX12_readsMourner_14 ?_
    refine W.widen (k := 2) (n := 12) (by omega) (by omega) ?_
    exact k_zret (wq_M τ ad) hx hb hr hlk hw hM (by decide) (by decide) hv dX12_readsMourner_15
set_option maxHeartbeats 4000000 in
set_option maxRecDepth 100000 in
theorem mX12_mourners (l : Launch) (D : va_G) (τ : Nat → ClassId) (ad : Nat → Nat) (sA sV : Nat → Nat) (sz : Nat)   (M : Mem) (hM : MR M) (Q : Int → Mem → Prop) (hv : qX12_mourners  M Q) : Met l yX12_mourners (lw_w yX12_mourners cX12_mourners 6 (some .int)) (rmk 7 20 120) (kPc D τ sA sV (WM τ ad M) sz [.ref (ad 1)]) (gQi D (EQi (WM τ ad) MR Q) (va_A (WM τ ad M) sz)) 20 120 (va_A (WM τ ad M) sz) := by
  refine k_met (ret := (some .int)) (Qc := gQi D (EQi (WM τ ad) MR Q)) (by decide +kernel) (Nat.le_of_ble_eq_true rfl) ?_
  intro p e s m args below meth c A ls hx hb hml hr hlk hnm hC hLS hA hw hl
  have hC : cx D τ s m args RX12 := hC
  have hl : lv_has ls 6 [(0, .ref (ad 1))] := hl
  unfold qX12_mourners at hv
  have L29 : ∀ (X60 : Int → Int → Mem → Prop), (∀ (v1 : Int) (v2 : Int) (M : Mem) (H : Heap) (locs : List Loc) (ls : Array Slot), MR M → X60 v1 v2 M → wS D A s.heap (WM τ ad M) H locs → lv_has ls 6 [(0, .ref (ad 1)), (1, .int (iI v1)), (2, .int (iI v2))] → W p l e (rmk 7 20 120) s m args below meth c H locs 20 120 (MQ below (gQi D (EQi (WM τ ad) MR Q) A) args s 20 120 A) (F0 m 60 ls [])) → ∀ (n : Nat) (_ : n ≤ 10) (v1 : Int) (v2 : Int) (v3 : Int) (M : Mem) (H : Heap) (locs : List Loc) (ls : Array Slot), MR M → qX12_mourners_L29  X60 Q n v1 v2 v3 M → wS D A s.heap (WM τ ad M) H locs → lv_has ls 6 [(0, .ref (ad 1)), (1, .int (iI v1)), (2, .int (iI v2)), (3, .int (iI v3))] → W p l e (rmk 7 20 120) s m args below meth c H locs (2 * (10 - n)) (12 * (10 - n)) (MQ below (gQi D (EQi (WM τ ad) MR Q) A) args s 20 120 A) (F0 m 29 ls []) := by
    intro X60 hX60 n
    induction n with
    | zero => intro _ v1 v2 v3 M H locs ls hM hv; rw [qX12_mourners_L29] at hv; exact hv.elim
    | succ n ih =>
      intro hn9 v1 v2 v3 M H locs ls hM hv hw hl
      rw [qX12_mourners_L29] at hv
      refine lv_iload_n hx hb dX12_mourners_29 rfl (lv_at hl 3 rfl) ?_
      obtain ⟨c5, hv⟩ := hv
      refine r_if_eq (tgt := 60) hx hb dX12_mourners_30 (by decide) c5  (fun b6 => ?_) (fun b6 => ?_)
      · have hv := hv.1 b6
        refine W.widen (k := 20) (n := 120) (by omega) (by omega) ?_
        exact hX60 v1 v2 M _ _ _ hM hv hw (lv_sub hl [0, 1, 2] rfl)
      · have hv := hv.2 b6
        refine lv_aload_n hx hb dX12_mourners_33 rfl (lv_at hl 0 rfl) ?_
        refine k_cVzA (wq_M τ ad) hx hb hml hC hLS hA hw hl.1 (mX12_readsMourner l D τ ad sA sV _   M hM _ hv) kX12_readsMourner ml_X12_228 rfl (gM_1 τ ad M) rfl rfl (Nat.le_of_ble_eq_true rfl) (rm_ok (by decide) (by decide)) ⟨by show _ ≤ 20; omega, by show _ ≤ 120; omega⟩ (cells' := 2 * (10 - n)) (slots' := 12 * (10 - n)) (by omega) (by omega) dX12_mourners_34 (fun x7 M7 H locs g7 z7 hM hv hw => ?_)
        have hv := hv g7 z7
        refine lv_istore_n (lv' := [(2, .int (iI x7)), (0, .ref (ad 1)), (1, .int (iI v1)), (3, .int (iI v3))]) hx hb dX12_mourners_37 rfl hl (by decide) rfl (fun ls hl => ?_)
        refine lv_iload_n hx hb dX12_mourners_38 rfl (lv_at hl 0 rfl) ?_
        refine r_if_eq (tgt := 55) hx hb dX12_mourners_39 (by decide) g7  (fun b8 => ?_) (fun b8 => ?_)
        · have hv := hv.1 b8
          refine r_iconst hx hb dX12_mourners_55 ?_
          refine lv_istore_n (lv' := [(3, .int (iI 0)), (2, .int (iI x7)), (0, .ref (ad 1)), (1, .int (iI v1))]) hx hb dX12_mourners_56 rfl hl (by decide) rfl (fun ls hl => ?_)
          refine lv_goto (tgt := 29) hx hb dX12_mourners_57 (by decide) ?_
          exact (ih (by omega)) v1 x7 0 M7 _ _ _ hM hv hw (lv_sub hl [2, 3, 1, 0] rfl)
        · have hv := hv.2 b8
          refine lv_aload_n hx hb dX12_mourners_42 rfl (lv_at hl 1 rfl) ?_
          refine r_bipush hx hb dX12_mourners_43 (by decide +kernel) ?_
          refine k_cVz (wq_M τ ad) hx hb hml hC hLS hA hw hl.1 (mX12_takes l D τ ad sA sV _ 59 (by decide) M7 hM _ hv) kX12_takes ml_X12_217 rfl (gM_1 τ ad M7) rfl rfl (Nat.le_of_ble_eq_true rfl) (rm_ok (by decide) (by decide)) ⟨by show _ ≤ 20; omega, by show _ ≤ 120; omega⟩ dX12_mourners_45 (fun x9 M9 H locs g9 z9 hM hv hw => ?_)
          have hv := hv g9 z9
          refine r_if_eq (tgt := 55) hx hb dX12_mourners_48 (by decide) g9  (fun b10 => ?_) (fun b10 => ?_)
          · have hv := hv.1 b10
            refine r_iconst hx hb dX12_mourners_55 ?_
            refine lv_istore_n (lv' := [(3, .int (iI 0)), (2, .int (iI x7)), (0, .ref (ad 1)), (1, .int (iI v1))]) hx hb dX12_mourners_56 rfl hl (by decide) rfl (fun ls hl => ?_)
            refine lv_goto (tgt := 29) hx hb dX12_mourners_57 (by decide) ?_
            exact (ih (by omega)) v1 x7 0 M9 _ _ _ hM hv hw (lv_sub hl [2, 3, 1, 0] rfl)
          · have hv := hv.2 b10
            refine r_iconst hx hb dX12_mourners_51 ?_
            refine lv_goto (tgt := 56) hx hb dX12_mourners_52 (by decide) ?_
            refine lv_istore_n (lv' := [(3, .int (iI 1)), (2, .int (iI x7)), (0, .ref (ad 1)), (1, .int (iI v1))]) hx hb dX12_mourners_56 rfl hl (by decide) rfl (fun ls hl => ?_)
            refine lv_goto (tgt := 29) hx hb dX12_mourners_57 (by decide) ?_
            exact (ih (by omega)) v1 x7 1 M9 _ _ _ hM hv hw (lv_sub hl [2, 3, 1, 0] rfl)
  have L81 : ∀ (X173 : Mem → Prop), (∀  (M : Mem) (H : Heap) (locs : List Loc) (ls : Array Slot), MR M → X173  M → wS D A s.heap (WM τ ad M) H locs → lv_has ls 6 [(0, .ref (ad 1))] → W p l e (rmk 7 20 120) s m args below meth c H locs 20 120 (MQ below (gQi D (EQi (WM τ ad) MR Q) A) args s 20 120 A) (F0 m 173 ls [])) → ∀ (n : Nat) (v5 : Int) (M : Mem) (H : Heap) (locs : List Loc) (ls : Array Slot), MR M → qX12_mourners_L81  X173 Q n v5 M → wS D A s.heap (WM τ ad M) H locs → lv_has ls 6 [(0, .ref (ad 1)), (5, .int (iI v5))] → W p l e (rmk 7 20 120) s m args below meth c H locs 20 120 (MQ below (gQi D (EQi (WM τ ad) MR Q) A) args s 20 120 A) (F0 m 81 ls []) := by
    intro X173 hX173 n
    induction n with
    | zero => intro v5 M H locs ls hM hv; rw [qX12_mourners_L81] at hv; exact hv.elim
    | succ n ih =>
      intro v5 M H locs ls hM hv hw hl
      rw [qX12_mourners_L81] at hv
      refine lv_iload hx hb dX12_mourners_81 (lv_at hl 1 rfl) ?_
      refine lv_aload_n hx hb dX12_mourners_83 rfl (lv_at hl 0 rfl) ?_
      refine gf_X12_199 hx hb hC hw 1 (gM_1 τ ad M) rfl dX12_mourners_84 ?_
      refine r_top (fun x16 e16 => ?_)
      have g16 : iR x16 := by rw [e16]; exact hM.get (by decide) _
      have hv := hv x16 e16 g16
      obtain ⟨c17, hv⟩ := hv
      refine r_icmp_ge (tgt := 173) hx hb dX12_mourners_87 (by decide) c17 g16 (fun b18 => ?_) (fun b18 => ?_)
      · have hv := hv.1 b18
        exact hX173  M _ _ _ hM hv hw (lv_sub hl [0] rfl)
      · have hv := hv.2 b18
        refine lv_aload_n hx hb dX12_mourners_90 rfl (lv_at hl 0 rfl) ?_
        refine gf_X12_31 hx hb hC hw 1 (gM_1 τ ad M) rfl dX12_mourners_91 ?_
        refine r_bipush hx hb dX12_mourners_94 (by decide +kernel) ?_
        refine lv_aload_n hx hb dX12_mourners_96 rfl (lv_at hl 0 rfl) ?_
        refine gf_X12_129 hx hb hC hw 1 (gM_1 τ ad M) rfl dX12_mourners_97 ?_
        refine r_top (fun x19 e19 => ?_)
        have g19 : iR x19 := by rw [e19]; exact hM.get (by decide) _
        have hv := hv x19 e19 g19
        refine r_iadd (z := (13 + x19)) hx hb dX12_mourners_100 rfl ?_
        refine lv_aload_n hx hb dX12_mourners_101 rfl (lv_at hl 0 rfl) ?_
        refine gf_X12_43 hx hb hC hw 1 (gM_1 τ ad M) rfl dX12_mourners_102 ?_
        refine r_iconst hx hb dX12_mourners_105 ?_
        refine lv_iload hx hb dX12_mourners_106 (lv_at hl 1 rfl) ?_
        refine r_imul (z := (2 * v5)) hx hb dX12_mourners_108 rfl ?_
        obtain ⟨c20, hv⟩ := hv
        obtain ⟨c21, hv⟩ := hv
        refine r_iald hx hb hC hw 9 (gI_M aM_9 τ ad M) c20 c21 (by decide) dX12_mourners_109 ?_
        refine r_top (fun x22 e22 => ?_)
        have g22 : iR x22 := by rw [e22]; exact hM.get aM_9.pos _
        have hv := hv x22 e22 g22
        obtain ⟨c23, hv⟩ := hv
        obtain ⟨c24, hv⟩ := hv
        obtain ⟨M25, e25⟩ : ∃ M25 : Mem, M25 = up2 M 5 (13 + x19) x22 := ⟨_, rfl⟩
        have hv := hv M25 e25
        refine r_iast (ws' := (WM τ ad M25)) hx hb hC hw 5 (gI_M aM_5 τ ad M) c23 c24 (by decide) (by rw [e25]; exact sI_M aM_5 τ ad M _ _) dX12_mourners_110 (fun H locs hw => ?_)
        have hM : MR M25 := by rw [e25]; exact hM.put aM_5.pos g22
        refine lv_aload_n hx hb dX12_mourners_111 rfl (lv_at hl 0 rfl) ?_
        refine gf_X12_24 hx hb hC hw 1 (gM_1 τ ad M25) rfl dX12_mourners_112 ?_
        refine lv_aload_n hx hb dX12_mourners_115 rfl (lv_at hl 0 rfl) ?_
        refine gf_X12_129 hx hb hC hw 1 (gM_1 τ ad M25) rfl dX12_mourners_116 ?_
        refine r_top (fun x26 e26 => ?_)
        have g26 : iR x26 := by rw [e26]; exact hM.get (by decide) _
        have hv := hv x26 e26 g26
        refine lv_aload_n hx hb dX12_mourners_119 rfl (lv_at hl 0 rfl) ?_
        refine gf_X12_43 hx hb hC hw 1 (gM_1 τ ad M25) rfl dX12_mourners_120 ?_
        refine r_iconst hx hb dX12_mourners_123 ?_
        refine lv_iload hx hb dX12_mourners_124 (lv_at hl 1 rfl) ?_
        refine r_imul (z := (2 * v5)) hx hb dX12_mourners_126 rfl ?_
        refine r_iconst hx hb dX12_mourners_127 ?_
        refine r_iadd (z := ((2 * v5) + 1)) hx hb dX12_mourners_128 rfl ?_
        obtain ⟨c27, hv⟩ := hv
        obtain ⟨c28, hv⟩ := hv
        refine r_iald hx hb hC hw 9 (gI_M aM_9 τ ad M25) c27 c28 (by decide) dX12_mourners_129 ?_
        refine r_top (fun x29 e29 => ?_)
        have g29 : iR x29 := by rw [e29]; exact hM.get aM_9.pos _
        have hv := hv x29 e29 g29
        obtain ⟨c30, hv⟩ := hv
        obtain ⟨c31, hv⟩ := hv
        obtain ⟨M32, e32⟩ : ∃ M32 : Mem, M32 = up2 M25 3 x26 x29 := ⟨_, rfl⟩
        have hv := hv M32 e32
        refine r_iast (ws' := (WM τ ad M32)) hx hb hC hw 3 (gI_M aM_3 τ ad M25) c30 c31 (by decide) (by rw [e32]; exact sI_M aM_3 τ ad M25 _ _) dX12_mourners_130 (fun H locs hw => ?_)
        have hM : MR M32 := by rw [e32]; exact hM.put aM_3.pos g29
        refine lv_aload_n hx hb dX12_mourners_131 rfl (lv_at hl 0 rfl) ?_
        refine gf_X12_31 hx hb hC hw 1 (gM_1 τ ad M32) rfl dX12_mourners_132 ?_
        refine r_bipush hx hb dX12_mourners_135 (by decide +kernel) ?_
        refine lv_aload_n hx hb dX12_mourners_137 rfl (lv_at hl 0 rfl) ?_
        refine gf_X12_129 hx hb hC hw 1 (gM_1 τ ad M32) rfl dX12_mourners_138 ?_
        refine r_top (fun x33 e33 => ?_)
        have g33 : iR x33 := by rw [e33]; exact hM.get (by decide) _
        have hv := hv x33 e33 g33
        refine r_iadd (z := (21 + x33)) hx hb dX12_mourners_141 rfl ?_
        refine r_iconst hx hb dX12_mourners_142 ?_
        obtain ⟨c34, hv⟩ := hv
        obtain ⟨c35, hv⟩ := hv
        obtain ⟨M36, e36⟩ : ∃ M36 : Mem, M36 = up2 M32 5 (21 + x33) (-1) := ⟨_, rfl⟩
        have hv := hv M36 e36
        refine r_iast (ws' := (WM τ ad M36)) hx hb hC hw 5 (gI_M aM_5 τ ad M32) c34 c35 (by decide) (by rw [e36]; exact sI_M aM_5 τ ad M32 _ _) dX12_mourners_143 (fun H locs hw => ?_)
        have hM : MR M36 := by rw [e36]; exact hM.put aM_5.pos (by decide)
        refine lv_aload_n hx hb dX12_mourners_144 rfl (lv_at hl 0 rfl) ?_
        refine gf_X12_31 hx hb hC hw 1 (gM_1 τ ad M36) rfl dX12_mourners_145 ?_
        refine r_bipush hx hb dX12_mourners_148 (by decide +kernel) ?_
        refine lv_aload_n hx hb dX12_mourners_150 rfl (lv_at hl 0 rfl) ?_
        refine gf_X12_129 hx hb hC hw 1 (gM_1 τ ad M36) rfl dX12_mourners_151 ?_
        refine r_top (fun x37 e37 => ?_)
        have g37 : iR x37 := by rw [e37]; exact hM.get (by decide) _
        have hv := hv x37 e37 g37
        refine r_iadd (z := (29 + x37)) hx hb dX12_mourners_154 rfl ?_
        refine r_iconst hx hb dX12_mourners_155 ?_
        obtain ⟨c38, hv⟩ := hv
        obtain ⟨c39, hv⟩ := hv
        obtain ⟨M40, e40⟩ : ∃ M40 : Mem, M40 = up2 M36 5 (29 + x37) (-1) := ⟨_, rfl⟩
        have hv := hv M40 e40
        refine r_iast (ws' := (WM τ ad M40)) hx hb hC hw 5 (gI_M aM_5 τ ad M36) c38 c39 (by decide) (by rw [e40]; exact sI_M aM_5 τ ad M36 _ _) dX12_mourners_156 (fun H locs hw => ?_)
        have hM : MR M40 := by rw [e40]; exact hM.put aM_5.pos (by decide)
        refine lv_aload_n hx hb dX12_mourners_157 rfl (lv_at hl 0 rfl) ?_
        refine lv_dup hx hb dX12_mourners_158 rfl ?_
        refine gf_X12_129 hx hb hC hw 1 (gM_1 τ ad M40) rfl dX12_mourners_159 ?_
        refine r_top (fun x41 e41 => ?_)
        have g41 : iR x41 := by rw [e41]; exact hM.get (by decide) _
        have hv := hv x41 e41 g41
        refine r_iconst hx hb dX12_mourners_162 ?_
        refine r_iadd (z := (x41 + 1)) hx hb dX12_mourners_163 rfl ?_
        obtain ⟨c42, hv⟩ := hv
        obtain ⟨M43, e43⟩ : ∃ M43 : Mem, M43 = up2 M40 1 5 (x41 + 1) := ⟨_, rfl⟩
        have hv := hv M43 e43
        refine pf_X12_129 (ws' := (WM τ ad M43)) hx hb hC hw 1 (gM_1 τ ad M40) (Nat.le_of_ble_eq_true rfl) (by rw [e43]; exact sM_1_5 τ ad M40 _) dX12_mourners_164 (fun H locs hw => ?_)
        have hM : MR M43 := by rw [e43]; exact hM.put (by decide) c42
        refine r_iinc (v := (v5 + 1)) (lv' := [(5, .int (iI (v5 + 1))), (0, .ref (ad 1))]) hx hb dX12_mourners_167 hl (k := 1) rfl rfl (by decide) rfl (fun ls hl => ?_)
        refine lv_goto (tgt := 81) hx hb dX12_mourners_170 (by decide) ?_
        exact ih (v5 + 1) M43 _ _ _ hM hv hw (lv_sub hl [1, 0] rfl)
  refine lv_aload_n hx hb dX12_mourners_0 rfl (lv_at hl 0 rfl) ?_
  refine r_iconst hx hb dX12_mourners_1 ?_
  obtain ⟨M1, e1⟩ : ∃ M1 : Mem, M1 = up2 M 1 0 0 := ⟨_, rfl⟩
  have hv := hv M1 e1
  refine pf_X12_112 (ws' := (WM τ ad M1)) hx hb hC hw 1 (gM_1 τ ad M) (Nat.le_of_ble_eq_true rfl) (by rw [e1]; exact sM_1_0 τ ad M _) dX12_mourners_2 (fun H locs hw => ?_)
  have hM : MR M1 := by rw [e1]; exact hM.put (by decide) (by decide)
  refine lv_aload_n hx hb dX12_mourners_5 rfl (lv_at hl 0 rfl) ?_
  refine r_bipush hx hb dX12_mourners_6 (by decide +kernel) ?_
  refine k_cVi (wq_M τ ad) hx hb hml hC hLS hA hw hl.1 (mX12_begins l D τ ad sA sV _ 39 (by decide) M1 hM _ hv) kX12_begins ml_X12_176 rfl (gM_1 τ ad M1) rfl rfl (Nat.le_of_ble_eq_true rfl) (rm_ok (by decide) (by decide)) ⟨by show _ ≤ 20; omega, by show _ ≤ 120; omega⟩ dX12_mourners_8 (fun x2 M2 H locs g2 hM hv hw => ?_)
  have hv := hv g2
  refine lv_istore_n (lv' := [(1, .int (iI x2)), (0, .ref (ad 1))]) hx hb dX12_mourners_11 rfl hl (by decide) rfl (fun ls hl => ?_)
  refine lv_aload_n hx hb dX12_mourners_12 rfl (lv_at hl 1 rfl) ?_
  refine r_iconst hx hb dX12_mourners_13 ?_
  obtain ⟨M3, e3⟩ : ∃ M3 : Mem, M3 = up2 M2 1 20 0 := ⟨_, rfl⟩
  have hv := hv M3 e3
  refine pf_X12_199 (ws' := (WM τ ad M3)) hx hb hC hw 1 (gM_1 τ ad M2) (Nat.le_of_ble_eq_true rfl) (by rw [e3]; exact sM_1_20 τ ad M2 _) dX12_mourners_14 (fun H locs hw => ?_)
  have hM : MR M3 := by rw [e3]; exact hM.put (by decide) (by decide)
  refine r_iconst hx hb dX12_mourners_17 ?_
  refine lv_istore_n (lv' := [(2, .int (iI 1)), (1, .int (iI x2)), (0, .ref (ad 1))]) hx hb dX12_mourners_18 rfl hl (by decide) rfl (fun ls hl => ?_)
  refine lv_iload_n hx hb dX12_mourners_19 rfl (lv_at hl 1 rfl) ?_
  refine r_if_le (tgt := 27) hx hb dX12_mourners_20 (by decide) g2  (fun b4 => ?_) (fun b4 => ?_)
  · have hv := hv.1 b4
    refine r_iconst hx hb dX12_mourners_27 ?_
    refine lv_istore_n (lv' := [(3, .int (iI 0)), (2, .int (iI 1)), (1, .int (iI x2)), (0, .ref (ad 1))]) hx hb dX12_mourners_28 rfl hl (by decide) rfl (fun ls hl => ?_)
    obtain ⟨n11, hn11, hv⟩ := hv
    refine W.widen (k := 2 * (10 - n11)) (n := 12 * (10 - n11)) (by omega) (by omega) ?_
    refine L29 _ ?_ n11 hn11 x2 1 0 M3 _ _ _ hM hv hw (lv_sub hl [3, 2, 1, 0] rfl)
    · intro v1 v2 M H locs ls hM hv hw hl
      refine lv_aload_n hx hb dX12_mourners_60 rfl (lv_at hl 0 rfl) ?_
      refine lv_iload_n hx hb dX12_mourners_61 rfl (lv_at hl 1 rfl) ?_
      refine r_bipush hx hb dX12_mourners_62 (by decide +kernel) ?_
      refine lv_iload_n hx hb dX12_mourners_64 rfl (lv_at hl 2 rfl) ?_
      obtain ⟨c12, hv⟩ := hv
      obtain ⟨c13, hv⟩ := hv
      refine k_cVi (wq_M τ ad) hx hb hml hC hLS hA hw hl.1 (mX12_faultOf l D τ ad sA sV _ v1 39 v2 c12 (by decide) c13 M hM _ hv) kX12_faultOf ml_X12_221 rfl (gM_1 τ ad M) rfl rfl (Nat.le_of_ble_eq_true rfl) (rm_ok (by decide) (by decide)) ⟨by show _ ≤ 20; omega, by show _ ≤ 120; omega⟩ dX12_mourners_65 (fun x14 M14 H locs g14 hM hv hw => ?_)
      have hv := hv g14
      refine lv_istore (lv' := [(4, .int (iI x14)), (0, .ref (ad 1)), (1, .int (iI v1)), (2, .int (iI v2))]) hx hb dX12_mourners_68 hl (by decide) rfl (fun ls hl => ?_)
      refine lv_iload hx hb dX12_mourners_70 (lv_at hl 0 rfl) ?_
      refine r_if_ge (tgt := 78) hx hb dX12_mourners_72 (by decide) g14  (fun b15 => ?_) (fun b15 => ?_)
      · have hv := hv.1 b15
        refine r_iconst hx hb dX12_mourners_78 ?_
        refine lv_istore (lv' := [(5, .int (iI 0)), (4, .int (iI x14)), (0, .ref (ad 1)), (1, .int (iI v1)), (2, .int (iI v2))]) hx hb dX12_mourners_79 hl (by decide) rfl (fun ls hl => ?_)
        obtain ⟨n44, hv⟩ := hv
        refine L81 _ ?_ n44 0 M14 _ _ _ hM hv hw (lv_sub hl [2, 0] rfl)
        · intro  M H locs ls hM hv hw hl
          refine lv_aload_n hx hb dX12_mourners_173 rfl (lv_at hl 0 rfl) ?_
          refine k_cVi (wq_M τ ad) hx hb hml hC hLS hA hw hl.1 (mX12_isNew l D τ ad sA sV _   M hM _ hv) kX12_isNew ml_X12_225 rfl (gM_1 τ ad M) rfl rfl (Nat.le_of_ble_eq_true rfl) (rm_ok (by decide) (by decide)) ⟨by show _ ≤ 20; omega, by show _ ≤ 120; omega⟩ dX12_mourners_174 (fun x45 M45 H locs g45 hM hv hw => ?_)
          have hv := hv g45
          exact k_iret (wq_M τ ad) hx hb hr hlk hw hM g45 hv dX12_mourners_177
      · have hv := hv.2 b15
        refine lv_iload hx hb dX12_mourners_75 (lv_at hl 0 rfl) ?_
        exact k_iret (wq_M τ ad) hx hb hr hlk hw hM g14 hv dX12_mourners_77
  · have hv := hv.2 b4
    refine r_iconst hx hb dX12_mourners_23 ?_
    refine lv_goto (tgt := 28) hx hb dX12_mourners_24 (by decide) ?_
    refine lv_istore_n (lv' := [(3, .int (iI 1)), (2, .int (iI 1)), (1, .int (iI x2)), (0, .ref (ad 1))]) hx hb dX12_mourners_28 rfl hl (by decide) rfl (fun ls hl => ?_)
    obtain ⟨n46, hn46, hv⟩ := hv
    refine W.widen (k := 2 * (10 - n46)) (n := 12 * (10 - n46)) (by omega) (by omega) ?_
    refine L29 _ ?_ n46 hn46 x2 1 1 M3 _ _ _ hM hv hw (lv_sub hl [3, 2, 1, 0] rfl)
    · intro v1 v2 M H locs ls hM hv hw hl
      refine lv_aload_n hx hb dX12_mourners_60 rfl (lv_at hl 0 rfl) ?_
      refine lv_iload_n hx hb dX12_mourners_61 rfl (lv_at hl 1 rfl) ?_
      refine r_bipush hx hb dX12_mourners_62 (by decide +kernel) ?_
      refine lv_iload_n hx hb dX12_mourners_64 rfl (lv_at hl 2 rfl) ?_
      obtain ⟨c47, hv⟩ := hv
      obtain ⟨c48, hv⟩ := hv
      refine k_cVi (wq_M τ ad) hx hb hml hC hLS hA hw hl.1 (mX12_faultOf l D τ ad sA sV _ v1 39 v2 c47 (by decide) c48 M hM _ hv) kX12_faultOf ml_X12_221 rfl (gM_1 τ ad M) rfl rfl (Nat.le_of_ble_eq_true rfl) (rm_ok (by decide) (by decide)) ⟨by show _ ≤ 20; omega, by show _ ≤ 120; omega⟩ dX12_mourners_65 (fun x49 M49 H locs g49 hM hv hw => ?_)
      have hv := hv g49
      refine lv_istore (lv' := [(4, .int (iI x49)), (0, .ref (ad 1)), (1, .int (iI v1)), (2, .int (iI v2))]) hx hb dX12_mourners_68 hl (by decide) rfl (fun ls hl => ?_)
      refine lv_iload hx hb dX12_mourners_70 (lv_at hl 0 rfl) ?_
      refine r_if_ge (tgt := 78) hx hb dX12_mourners_72 (by decide) g49  (fun b50 => ?_) (fun b50 => ?_)
      · have hv := hv.1 b50
        refine r_iconst hx hb dX12_mourners_78 ?_
        refine lv_istore (lv' := [(5, .int (iI 0)), (4, .int (iI x49)), (0, .ref (ad 1)), (1, .int (iI v1)), (2, .int (iI v2))]) hx hb dX12_mourners_79 hl (by decide) rfl (fun ls hl => ?_)
        obtain ⟨n51, hv⟩ := hv
        refine L81 _ ?_ n51 0 M49 _ _ _ hM hv hw (lv_sub hl [2, 0] rfl)
        · intro  M H locs ls hM hv hw hl
          refine lv_aload_n hx hb dX12_mourners_173 rfl (lv_at hl 0 rfl) ?_
          refine k_cVi (wq_M τ ad) hx hb hml hC hLS hA hw hl.1 (mX12_isNew l D τ ad sA sV _   M hM _ hv) kX12_isNew ml_X12_225 rfl (gM_1 τ ad M) rfl rfl (Nat.le_of_ble_eq_true rfl) (rm_ok (by decide) (by decide)) ⟨by show _ ≤ 20; omega, by show _ ≤ 120; omega⟩ dX12_mourners_174 (fun x52 M52 H locs g52 hM hv hw => ?_)
          have hv := hv g52
          exact k_iret (wq_M τ ad) hx hb hr hlk hw hM g52 hv dX12_mourners_177
      · have hv := hv.2 b50
        refine lv_iload hx hb dX12_mourners_75 (lv_at hl 0 rfl) ?_
        exact k_iret (wq_M τ ad) hx hb hr hlk hw hM g49 hv dX12_mourners_77
set_option maxHeartbeats 4000000 in
set_option maxRecDepth 100000 in
theorem mX12_weather (l : Launch) (D : va_G) (τ : Nat → ClassId) (ad : Nat → Nat) (sA sV : Nat → Nat) (sz : Nat)   (M : Mem) (hM : MR M) (Q : Int → Mem → Prop) (hv : qX12_weather  M Q) : Met l yX12_weather (lw_w yX12_weather cX12_weather 3 (some .int)) (rmk 4 0 0) (kPc D τ sA sV (WM τ ad M) sz [.ref (ad 1)]) (gQi D (EQi (WM τ ad) MR Q) (va_A (WM τ ad M) sz)) 0 0 (va_A (WM τ ad M) sz) := by
  refine k_met (ret := (some .int)) (Qc := gQi D (EQi (WM τ ad) MR Q)) (by decide +kernel) (Nat.le_of_ble_eq_true rfl) ?_
  intro p e s m args below meth c A ls hx hb hml hr hlk hnm hC hLS hA hw hl
  have hC : cx D τ s m args RX12 := hC
  have hl : lv_has ls 3 [(0, .ref (ad 1))] := hl
  unfold qX12_weather at hv
  have L14 : ∀ (X44 : Int → Mem → Prop), (∀ (v1 : Int) (M : Mem) (H : Heap) (locs : List Loc) (ls : Array Slot), MR M → X44 v1 M → wS D A s.heap (WM τ ad M) H locs → lv_has ls 3 [(0, .ref (ad 1)), (1, .int (iI v1))] → W p l e (rmk 4 0 0) s m args below meth c H locs 0 0 (MQ below (gQi D (EQi (WM τ ad) MR Q) A) args s 0 0 A) (F0 m 44 ls [])) → ∀ (n : Nat) (v1 : Int) (M : Mem) (H : Heap) (locs : List Loc) (ls : Array Slot), MR M → qX12_weather_L14  X44 Q n v1 M → wS D A s.heap (WM τ ad M) H locs → lv_has ls 3 [(0, .ref (ad 1)), (1, .int (iI v1))] → W p l e (rmk 4 0 0) s m args below meth c H locs 0 0 (MQ below (gQi D (EQi (WM τ ad) MR Q) A) args s 0 0 A) (F0 m 14 ls []) := by
    intro X44 hX44 n
    induction n with
    | zero => intro v1 M H locs ls hM hv; rw [qX12_weather_L14] at hv; exact hv.elim
    | succ n ih =>
      intro v1 M H locs ls hM hv hw hl
      rw [qX12_weather_L14] at hv
      refine lv_iload_n hx hb dX12_weather_14 rfl (lv_at hl 1 rfl) ?_
      refine r_bipush hx hb dX12_weather_15 (by decide +kernel) ?_
      obtain ⟨c3, hv⟩ := hv
      refine r_icmp_ge (tgt := 44) hx hb dX12_weather_17 (by decide) c3 (by decide) (fun b4 => ?_) (fun b4 => ?_)
      · have hv := hv.1 b4
        exact hX44 v1 M _ _ _ hM hv hw (lv_sub hl [0, 1] rfl)
      · have hv := hv.2 b4
        refine lv_aload_n hx hb dX12_weather_20 rfl (lv_at hl 0 rfl) ?_
        refine k_cVz (wq_M τ ad) hx hb hml hC hLS hA hw hl.1 (mX12_isDigit l D τ ad sA sV _   M hM _ hv) kX12_isDigit ml_X12_172 rfl (gM_1 τ ad M) rfl rfl (Nat.le_of_ble_eq_true rfl) (rm_ok (by decide) (by decide)) ⟨Nat.zero_le _, Nat.zero_le _⟩ dX12_weather_21 (fun x5 M5 H locs g5 z5 hM hv hw => ?_)
        have hv := hv g5 z5
        refine r_if_eq (tgt := 44) hx hb dX12_weather_24 (by decide) g5  (fun b6 => ?_) (fun b6 => ?_)
        · have hv := hv.1 b6
          exact hX44 v1 M5 _ _ _ hM hv hw (lv_sub hl [0, 1] rfl)
        · have hv := hv.2 b6
          refine lv_aload_n hx hb dX12_weather_27 rfl (lv_at hl 0 rfl) ?_
          refine gf_X12_46 hx hb hC hw 1 (gM_1 τ ad M5) rfl dX12_weather_28 ?_
          refine lv_iload_n hx hb dX12_weather_31 rfl (lv_at hl 1 rfl) ?_
          refine lv_aload_n hx hb dX12_weather_32 rfl (lv_at hl 0 rfl) ?_
          refine r_iconst hx hb dX12_weather_33 ?_
          refine k_cVi (wq_M τ ad) hx hb hml hC hLS hA hw hl.1 (mX12_number l D τ ad sA sV _ 1 (by decide) M5 hM _ hv) kX12_number ml_X12_189 rfl (gM_1 τ ad M5) rfl rfl (Nat.le_of_ble_eq_true rfl) (rm_ok (by decide) (by decide)) ⟨Nat.zero_le _, Nat.zero_le _⟩ dX12_weather_34 (fun x7 M7 H locs g7 hM hv hw => ?_)
          have hv := hv g7
          obtain ⟨c8, hv⟩ := hv
          obtain ⟨c9, hv⟩ := hv
          obtain ⟨M10, e10⟩ : ∃ M10 : Mem, M10 = up2 M7 10 v1 x7 := ⟨_, rfl⟩
          have hv := hv M10 e10
          refine r_iast (ws' := (WM τ ad M10)) hx hb hC hw 10 (gI_M aM_10 τ ad M7) c8 c9 (by decide) (by rw [e10]; exact sI_M aM_10 τ ad M7 _ _) dX12_weather_37 (fun H locs hw => ?_)
          have hM : MR M10 := by rw [e10]; exact hM.put aM_10.pos g7
          refine r_iinc (v := (v1 + 1)) (lv' := [(1, .int (iI (v1 + 1))), (0, .ref (ad 1))]) hx hb dX12_weather_38 hl (k := 1) rfl rfl (by decide) rfl (fun ls hl => ?_)
          refine lv_goto (tgt := 14) hx hb dX12_weather_41 (by decide) ?_
          exact ih (v1 + 1) M10 _ _ _ hM hv hw (lv_sub hl [1, 0] rfl)
  have L73 : ∀ (n : Nat) (v1 : Int) (v2 : Int) (M : Mem) (H : Heap) (locs : List Loc) (ls : Array Slot), MR M → qX12_weather_L73   Q n v1 v2 M → wS D A s.heap (WM τ ad M) H locs → lv_has ls 3 [(0, .ref (ad 1)), (1, .int (iI v1)), (2, .int (iI v2))] → W p l e (rmk 4 0 0) s m args below meth c H locs 0 0 (MQ below (gQi D (EQi (WM τ ad) MR Q) A) args s 0 0 A) (F0 m 73 ls []) := by
    intro n
    induction n with
    | zero => intro v1 v2 M H locs ls hM hv; rw [qX12_weather_L73] at hv; exact hv.elim
    | succ n ih =>
      intro v1 v2 M H locs ls hM hv hw hl
      rw [qX12_weather_L73] at hv
      refine lv_iload_n hx hb dX12_weather_73 rfl (lv_at hl 2 rfl) ?_
      refine lv_iload_n hx hb dX12_weather_74 rfl (lv_at hl 1 rfl) ?_
      obtain ⟨c20, hv⟩ := hv
      obtain ⟨c21, hv⟩ := hv
      refine r_icmp_ge (tgt := 96) hx hb dX12_weather_75 (by decide) c20 c21 (fun b22 => ?_) (fun b22 => ?_)
      · have hv := hv.1 b22
        refine lv_iload_n hx hb dX12_weather_96 rfl (lv_at hl 1 rfl) ?_
        exact k_iret (wq_M τ ad) hx hb hr hlk hw hM c21 hv dX12_weather_97
      · have hv := hv.2 b22
        refine lv_aload_n hx hb dX12_weather_78 rfl (lv_at hl 0 rfl) ?_
        refine gf_X12_28 hx hb hC hw 1 (gM_1 τ ad M) rfl dX12_weather_79 ?_
        refine lv_iload_n hx hb dX12_weather_82 rfl (lv_at hl 2 rfl) ?_
        refine lv_aload_n hx hb dX12_weather_83 rfl (lv_at hl 0 rfl) ?_
        refine gf_X12_46 hx hb hC hw 1 (gM_1 τ ad M) rfl dX12_weather_84 ?_
        refine lv_iload_n hx hb dX12_weather_87 rfl (lv_at hl 2 rfl) ?_
        obtain ⟨c23, hv⟩ := hv
        obtain ⟨c24, hv⟩ := hv
        refine r_iald hx hb hC hw 10 (gI_M aM_10 τ ad M) c23 c24 (by decide) dX12_weather_88 ?_
        refine r_top (fun x25 e25 => ?_)
        have g25 : iR x25 := by rw [e25]; exact hM.get aM_10.pos _
        have hv := hv x25 e25 g25
        obtain ⟨M26, e26⟩ : ∃ M26 : Mem, M26 = up2 M 4 v2 x25 := ⟨_, rfl⟩
        have hv := hv M26 e26
        refine r_iast (ws' := (WM τ ad M26)) hx hb hC hw 4 (gI_M aM_4 τ ad M) c23 c24 (by decide) (by rw [e26]; exact sI_M aM_4 τ ad M _ _) dX12_weather_89 (fun H locs hw => ?_)
        have hM : MR M26 := by rw [e26]; exact hM.put aM_4.pos g25
        refine r_iinc (v := (v2 + 1)) (lv' := [(2, .int (iI (v2 + 1))), (0, .ref (ad 1)), (1, .int (iI v1))]) hx hb dX12_weather_90 hl (k := 2) rfl rfl (by decide) rfl (fun ls hl => ?_)
        refine lv_goto (tgt := 73) hx hb dX12_weather_93 (by decide) ?_
        exact ih v1 (v2 + 1) M26 _ _ _ hM hv hw (lv_sub hl [1, 2, 0] rfl)
  have J44 : ∀ (v1 : Int) (M : Mem) (H : Heap) (locs : List Loc) (ls : Array Slot), MR M → qX12_weather_J44  Q v1 M → wS D A s.heap (WM τ ad M) H locs → lv_has ls 3 [(0, .ref (ad 1)), (1, .int (iI v1))] → W p l e (rmk 4 0 0) s m args below meth c H locs 0 0 (MQ below (gQi D (EQi (WM τ ad) MR Q) A) args s 0 0 A) (F0 m 44 ls []) := by
    intro v1 M H locs ls hM hv hw hl
    unfold qX12_weather_J44 at hv
    refine lv_iload_n hx hb dX12_weather_44 rfl (lv_at hl 1 rfl) ?_
    obtain ⟨c12, hv⟩ := hv
    refine r_if_eq (tgt := 59) hx hb dX12_weather_45 (by decide) c12  (fun b13 => ?_) (fun b13 => ?_)
    · have hv := hv.1 b13
      refine r_iconst hx hb dX12_weather_59 ?_
      refine lv_aload_n hx hb dX12_weather_60 rfl (lv_at hl 0 rfl) ?_
      refine gf_X12_139 hx hb hC hw 1 (gM_1 τ ad M) rfl dX12_weather_61 ?_
      refine r_top (fun x14 e14 => ?_)
      have g14 : iR x14 := by rw [e14]; exact hM.get (by decide) _
      have hv := hv x14 e14 g14
      refine r_isub (z := ((-1) - x14)) hx hb dX12_weather_64 rfl ?_
      obtain ⟨c15, hv⟩ := hv
      exact k_iret (wq_M τ ad) hx hb hr hlk hw hM c15 hv dX12_weather_65
    · have hv := hv.2 b13
      refine lv_aload_n hx hb dX12_weather_48 rfl (lv_at hl 0 rfl) ?_
      refine gf_X12_139 hx hb hC hw 1 (gM_1 τ ad M) rfl dX12_weather_49 ?_
      refine r_top (fun x16 e16 => ?_)
      have g16 : iR x16 := by rw [e16]; exact hM.get (by decide) _
      have hv := hv x16 e16 g16
      refine lv_aload_n hx hb dX12_weather_52 rfl (lv_at hl 0 rfl) ?_
      refine gf_X12_151 hx hb hC hw 1 (gM_1 τ ad M) rfl dX12_weather_53 ?_
      refine r_top (fun x17 e17 => ?_)
      have g17 : iR x17 := by rw [e17]; exact hM.get (by decide) _
      have hv := hv x17 e17 g17
      refine r_icmp_ge (tgt := 66) hx hb dX12_weather_56 (by decide) g16 g17 (fun b18 => ?_) (fun b18 => ?_)
      · have hv := hv.1 b18
        refine lv_aload_n hx hb dX12_weather_66 rfl (lv_at hl 0 rfl) ?_
        refine lv_iload_n hx hb dX12_weather_67 rfl (lv_at hl 1 rfl) ?_
        obtain ⟨M19, e19⟩ : ∃ M19 : Mem, M19 = up2 M 1 7 v1 := ⟨_, rfl⟩
        have hv := hv M19 e19
        refine pf_X12_17 (ws' := (WM τ ad M19)) hx hb hC hw 1 (gM_1 τ ad M) (Nat.le_of_ble_eq_true rfl) (by rw [e19]; exact sM_1_7 τ ad M _) dX12_weather_68 (fun H locs hw => ?_)
        have hM : MR M19 := by rw [e19]; exact hM.put (by decide) c12
        refine r_iconst hx hb dX12_weather_71 ?_
        refine lv_istore_n (lv' := [(2, .int (iI 0)), (0, .ref (ad 1)), (1, .int (iI v1))]) hx hb dX12_weather_72 rfl hl (by decide) rfl (fun ls hl => ?_)
        obtain ⟨n27, hv⟩ := hv
        refine L73  n27 v1 0 M19 _ _ _ hM hv hw (lv_sub hl [1, 2, 0] rfl)
      · have hv := hv.2 b18
        refine r_iconst hx hb dX12_weather_59 ?_
        refine lv_aload_n hx hb dX12_weather_60 rfl (lv_at hl 0 rfl) ?_
        refine gf_X12_139 hx hb hC hw 1 (gM_1 τ ad M) rfl dX12_weather_61 ?_
        refine r_top (fun x28 e28 => ?_)
        have g28 : iR x28 := by rw [e28]; exact hM.get (by decide) _
        have hv := hv x28 e28 g28
        refine r_isub (z := ((-1) - x28)) hx hb dX12_weather_64 rfl ?_
        obtain ⟨c29, hv⟩ := hv
        exact k_iret (wq_M τ ad) hx hb hr hlk hw hM c29 hv dX12_weather_65
  refine lv_aload_n hx hb dX12_weather_0 rfl (lv_at hl 0 rfl) ?_
  refine r_iconst hx hb dX12_weather_1 ?_
  obtain ⟨M1, e1⟩ : ∃ M1 : Mem, M1 = up2 M 1 0 0 := ⟨_, rfl⟩
  have hv := hv M1 e1
  refine pf_X12_112 (ws' := (WM τ ad M1)) hx hb hC hw 1 (gM_1 τ ad M) (Nat.le_of_ble_eq_true rfl) (by rw [e1]; exact sM_1_0 τ ad M _) dX12_weather_2 (fun H locs hw => ?_)
  have hM : MR M1 := by rw [e1]; exact hM.put (by decide) (by decide)
  refine lv_aload_n hx hb dX12_weather_5 rfl (lv_at hl 0 rfl) ?_
  refine r_bipush hx hb dX12_weather_6 (by decide +kernel) ?_
  refine k_cVi (wq_M τ ad) hx hb hml hC hLS hA hw hl.1 (mX12_begins l D τ ad sA sV _ 80 (by decide) M1 hM _ hv) kX12_begins ml_X12_176 rfl (gM_1 τ ad M1) rfl rfl (Nat.le_of_ble_eq_true rfl) (rm_ok (by decide) (by decide)) ⟨Nat.zero_le _, Nat.zero_le _⟩ dX12_weather_8 (fun x2 M2 H locs g2 hM hv hw => ?_)
  have hv := hv g2
  refine lv_pop hx hb dX12_weather_11 rfl ?_
  refine r_iconst hx hb dX12_weather_12 ?_
  refine lv_istore_n (lv' := [(1, .int (iI 0)), (0, .ref (ad 1))]) hx hb dX12_weather_13 rfl hl (by decide) rfl (fun ls hl => ?_)
  obtain ⟨n11, hv⟩ := hv
  refine L14 _ ?_ n11 0 M2 _ _ _ hM hv hw (lv_sub hl [1, 0] rfl)
  · intro v1 M H locs ls hM hv hw hl
    exact J44 v1 M _ _ _ hM hv hw (lv_sub hl [0, 1] rfl)
set_option maxHeartbeats 4000000 in
set_option maxRecDepth 100000 in
theorem mX12_laysCode (l : Launch) (D : va_G) (τ : Nat → ClassId) (ad : Nat → Nat) (sA sV : Nat → Nat) (sz : Nat) (k1 : Nat) (p2 : Int) (hk1 : MI 80 k1) (hp2 : iR p2) (M : Mem) (hM : MR M) (Q : Mem → Prop) (hv : qX12_laysCode k1 p2 M Q) : Met l yX12_laysCode (lw_w yX12_laysCode cX12_laysCode 4 none) (rmk 1 0 0) (kPc D τ sA sV (WM τ ad M) sz [.ref (ad 1), .ref (ad k1), .int (iI p2)]) (gQv D (EQv (WM τ ad) MR Q) (va_A (WM τ ad M) sz)) 0 0 (va_A (WM τ ad M) sz) := by
  refine k_met (ret := none) (Qc := gQv D (EQv (WM τ ad) MR Q)) (by decide +kernel) (Nat.le_of_ble_eq_true rfl) ?_
  intro p e s m args below meth c A ls hx hb hml hr hlk hnm hC hLS hA hw hl
  have hC : cx D τ s m args RX12 := hC
  have hl : lv_has ls 4 [(0, .ref (ad 1)), (1, .ref (ad k1)), (2, .int (iI p2))] := hl
  unfold qX12_laysCode at hv
  have L7 : ∀ (n : Nat) (v3 : Int) (M : Mem) (H : Heap) (locs : List Loc) (ls : Array Slot), MR M → qX12_laysCode_L7 k1 p2  Q n v3 M → wS D A s.heap (WM τ ad M) H locs → lv_has ls 4 [(0, .ref (ad 1)), (1, .ref (ad k1)), (2, .int (iI p2)), (3, .int (iI v3))] → W p l e (rmk 1 0 0) s m args below meth c H locs 0 0 (MQ below (gQv D (EQv (WM τ ad) MR Q) A) args s 0 0 A) (F0 m 7 ls []) := by
    intro n
    induction n with
    | zero => intro v3 M H locs ls hM hv; rw [qX12_laysCode_L7] at hv; exact hv.elim
    | succ n ih =>
      intro v3 M H locs ls hM hv hw hl
      rw [qX12_laysCode_L7] at hv
      refine lv_iload_n hx hb dX12_laysCode_7 rfl (lv_at hl 3 rfl) ?_
      refine lv_iload_n hx hb dX12_laysCode_8 rfl (lv_at hl 2 rfl) ?_
      obtain ⟨c2, hv⟩ := hv
      refine r_icmp_ge (tgt := 27) hx hb dX12_laysCode_9 (by decide) c2 hp2 (fun b3 => ?_) (fun b3 => ?_)
      · have hv := hv.1 b3
        exact k_vret (wq_M τ ad) hx hb hr hlk hw hM hv dX12_laysCode_27
      · have hv := hv.2 b3
        refine lv_aload_n hx hb dX12_laysCode_12 rfl (lv_at hl 0 rfl) ?_
        refine gf_X12_49 hx hb hC hw 1 (gM_1 τ ad M) rfl dX12_laysCode_13 ?_
        refine lv_iload_n hx hb dX12_laysCode_16 rfl (lv_at hl 3 rfl) ?_
        refine lv_aload_n hx hb dX12_laysCode_17 rfl (lv_at hl 1 rfl) ?_
        refine lv_iload_n hx hb dX12_laysCode_18 rfl (lv_at hl 3 rfl) ?_
        obtain ⟨c4, hv⟩ := hv
        obtain ⟨c5, hv⟩ := hv
        refine r_iald hx hb hC hw k1 (gI_M hk1 τ ad M) c4 c5 (by decide) dX12_laysCode_19 ?_
        refine r_top (fun x6 e6 => ?_)
        have g6 : iR x6 := by rw [e6]; exact hM.get hk1.pos _
        have hv := hv x6 e6 g6
        obtain ⟨M7, e7⟩ : ∃ M7 : Mem, M7 = up2 M 11 v3 x6 := ⟨_, rfl⟩
        have hv := hv M7 e7
        refine r_iast (ws' := (WM τ ad M7)) hx hb hC hw 11 (gI_M aM_11 τ ad M) c4 c5 (by decide) (by rw [e7]; exact sI_M aM_11 τ ad M _ _) dX12_laysCode_20 (fun H locs hw => ?_)
        have hM : MR M7 := by rw [e7]; exact hM.put aM_11.pos g6
        refine r_iinc (v := (v3 + 1)) (lv' := [(3, .int (iI (v3 + 1))), (0, .ref (ad 1)), (1, .ref (ad k1)), (2, .int (iI p2))]) hx hb dX12_laysCode_21 hl (k := 3) rfl rfl (by decide) rfl (fun ls hl => ?_)
        refine lv_goto (tgt := 7) hx hb dX12_laysCode_24 (by decide) ?_
        exact ih (v3 + 1) M7 _ _ _ hM hv hw (lv_sub hl [1, 2, 3, 0] rfl)
  refine lv_aload_n hx hb dX12_laysCode_0 rfl (lv_at hl 0 rfl) ?_
  refine lv_iload_n hx hb dX12_laysCode_1 rfl (lv_at hl 2 rfl) ?_
  obtain ⟨M1, e1⟩ : ∃ M1 : Mem, M1 = up2 M 1 24 p2 := ⟨_, rfl⟩
  have hv := hv M1 e1
  refine pf_X12_252 (ws' := (WM τ ad M1)) hx hb hC hw 1 (gM_1 τ ad M) (Nat.le_of_ble_eq_true rfl) (by rw [e1]; exact sM_1_24 τ ad M _) dX12_laysCode_2 (fun H locs hw => ?_)
  have hM : MR M1 := by rw [e1]; exact hM.put (by decide) hp2
  refine r_iconst hx hb dX12_laysCode_5 ?_
  refine lv_istore_n (lv' := [(3, .int (iI 0)), (0, .ref (ad 1)), (1, .ref (ad k1)), (2, .int (iI p2))]) hx hb dX12_laysCode_6 rfl hl (by decide) rfl (fun ls hl => ?_)
  obtain ⟨n8, hv⟩ := hv
  refine L7  n8 0 M1 _ _ _ hM hv hw (lv_sub hl [1, 2, 3, 0] rfl)
set_option maxHeartbeats 4000000 in
set_option maxRecDepth 100000 in
theorem mX12_codes (l : Launch) (D : va_G) (τ : Nat → ClassId) (ad : Nat → Nat) (sA sV : Nat → Nat) (sz : Nat) (p1 : Int) (hp1 : iR p1) (M : Mem) (hM : MR M) (Q : Mem → Prop) (hv : qX12_codes p1 M Q) : Met l yX12_codes (lw_w yX12_codes cX12_codes 2 none) (rmk 1 0 0) (kPc D τ sA sV (WM τ ad M) sz [.ref (ad 1), .int (iI p1)]) (gQv D (EQv (WM τ ad) MR Q) (va_A (WM τ ad M) sz)) 0 0 (va_A (WM τ ad M) sz) := by
  refine k_met (ret := none) (Qc := gQv D (EQv (WM τ ad) MR Q)) (by decide +kernel) (Nat.le_of_ble_eq_true rfl) ?_
  intro p e s m args below meth c A ls hx hb hml hr hlk hnm hC hLS hA hw hl
  have hC : cx D τ s m args RX12 := hC
  have hl : lv_has ls 2 [(0, .ref (ad 1)), (1, .int (iI p1))] := hl
  unfold qX12_codes at hv
  refine lv_aload_n hx hb dX12_codes_0 rfl (lv_at hl 0 rfl) ?_
  refine gf_X12_52 hx hb hC hw 1 (gM_1 τ ad M) rfl dX12_codes_1 ?_
  refine lv_aload_n hx hb dX12_codes_4 rfl (lv_at hl 0 rfl) ?_
  refine gf_X12_231 hx hb hC hw 1 (gM_1 τ ad M) rfl dX12_codes_5 ?_
  refine r_top (fun x1 e1 => ?_)
  have g1 : iR x1 := by rw [e1]; exact hM.get (by decide) _
  have hv := hv x1 e1 g1
  refine lv_iload_n hx hb dX12_codes_8 rfl (lv_at hl 1 rfl) ?_
  obtain ⟨c2, hv⟩ := hv
  obtain ⟨c3, hv⟩ := hv
  obtain ⟨M4, e4⟩ : ∃ M4 : Mem, M4 = up2 M 12 x1 p1 := ⟨_, rfl⟩
  have hv := hv M4 e4
  refine r_iast (ws' := (WM τ ad M4)) hx hb hC hw 12 (gI_M aM_12 τ ad M) c2 c3 (by decide) (by rw [e4]; exact sI_M aM_12 τ ad M _ _) dX12_codes_9 (fun H locs hw => ?_)
  have hM : MR M4 := by rw [e4]; exact hM.put aM_12.pos hp1
  refine lv_aload_n hx hb dX12_codes_10 rfl (lv_at hl 0 rfl) ?_
  refine lv_dup hx hb dX12_codes_11 rfl ?_
  refine gf_X12_231 hx hb hC hw 1 (gM_1 τ ad M4) rfl dX12_codes_12 ?_
  refine r_top (fun x5 e5 => ?_)
  have g5 : iR x5 := by rw [e5]; exact hM.get (by decide) _
  have hv := hv x5 e5 g5
  refine r_iconst hx hb dX12_codes_15 ?_
  refine r_iadd (z := (x5 + 1)) hx hb dX12_codes_16 rfl ?_
  obtain ⟨c6, hv⟩ := hv
  obtain ⟨M7, e7⟩ : ∃ M7 : Mem, M7 = up2 M4 1 25 (x5 + 1) := ⟨_, rfl⟩
  have hv := hv M7 e7
  refine pf_X12_231 (ws' := (WM τ ad M7)) hx hb hC hw 1 (gM_1 τ ad M4) (Nat.le_of_ble_eq_true rfl) (by rw [e7]; exact sM_1_25 τ ad M4 _) dX12_codes_17 (fun H locs hw => ?_)
  have hM : MR M7 := by rw [e7]; exact hM.put (by decide) c6
  exact k_vret (wq_M τ ad) hx hb hr hlk hw hM hv dX12_codes_20
set_option maxHeartbeats 4000000 in
set_option maxRecDepth 100000 in
theorem bmX12_readsThing (l : Launch) (D : va_G) (τ : Nat → ClassId) (ad : Nat → Nat) (sA sV : Nat → Nat) (d : Nat) (rc : Nat → Int → Mem → (Int → Mem → Prop) → Prop) (hrc_X12_readsThing : ∀ (sz : Nat)  (M : Mem) (hM : MR M) (Q : Int → Mem → Prop), rc 0 0  M Q → Met l yX12_readsThing (lw_w yX12_readsThing cX12_readsThing 2 (some .boolean)) (rmk (6 + d) 0 0) (kPc D τ sA sV (WM τ ad M) sz [.ref (ad 1)]) (gQi D (EQz (WM τ ad) MR Q) (va_A (WM τ ad M) sz)) 0 0 (va_A (WM τ ad M) sz)) (hrc_X12_readsRank : ∀ (sz : Nat) (p1 : Int) (hp1 : iR p1) (M : Mem) (hM : MR M) (Q : Int → Mem → Prop), rc 1 p1 M Q → Met l yX12_readsRank (lw_w yX12_readsRank cX12_readsRank 4 (some .boolean)) (rmk (6 + d) 0 0) (kPc D τ sA sV (WM τ ad M) sz [.ref (ad 1), .int (iI p1)]) (gQi D (EQz (WM τ ad) MR Q) (va_A (WM τ ad M) sz)) 0 0 (va_A (WM τ ad M) sz)) (sz : Nat)   (M : Mem) (hM : MR M) (Q : Int → Mem → Prop) (hv : bX12_readsThing rc M Q) : Met l yX12_readsThing (lw_w yX12_readsThing cX12_readsThing 2 (some .boolean)) (rmk (6 + (d + 1)) 0 0) (kPc D τ sA sV (WM τ ad M) sz [.ref (ad 1)]) (gQi D (EQz (WM τ ad) MR Q) (va_A (WM τ ad M) sz)) 0 0 (va_A (WM τ ad M) sz) := by
  refine k_met (ret := (some .boolean)) (Qc := gQi D (EQz (WM τ ad) MR Q)) (by decide +kernel) (Nat.le_of_ble_eq_true rfl) ?_
  intro p e s m args below meth c A ls hx hb hml hr hlk hnm hC hLS hA hw hl
  have hC : cx D τ s m args RX12 := hC
  have hl : lv_has ls 2 [(0, .ref (ad 1))] := hl
  unfold bX12_readsThing at hv
  refine lv_aload_n hx hb dX12_readsThing_0 rfl (lv_at hl 0 rfl) ?_
  refine r_bipush hx hb dX12_readsThing_1 (by decide +kernel) ?_
  refine k_cVz (wq_M τ ad) hx hb hml hC hLS hA hw hl.1 (mX12_takes l D τ ad sA sV _ 45 (by decide) M hM _ hv) kX12_takes ml_X12_217 rfl (gM_1 τ ad M) rfl rfl (Nat.le_of_ble_eq_true rfl) (rm_ok (by omega) (by decide)) ⟨Nat.zero_le _, Nat.zero_le _⟩ dX12_readsThing_3 (fun x1 M1 H locs g1 z1 hM hv hw => ?_)
  have hv := hv g1 z1
  refine r_if_eq (tgt := 23) hx hb dX12_readsThing_6 (by decide) g1  (fun b2 => ?_) (fun b2 => ?_)
  · have hv := hv.1 b2
    refine lv_aload_n hx hb dX12_readsThing_23 rfl (lv_at hl 0 rfl) ?_
    refine k_cVz (wq_M τ ad) hx hb hml hC hLS hA hw hl.1 (mX12_isDigit l D τ ad sA sV _   M1 hM _ hv) kX12_isDigit ml_X12_172 rfl (gM_1 τ ad M1) rfl rfl (Nat.le_of_ble_eq_true rfl) (rm_ok (by omega) (by decide)) ⟨Nat.zero_le _, Nat.zero_le _⟩ dX12_readsThing_24 (fun x3 M3 H locs g3 z3 hM hv hw => ?_)
    have hv := hv g3 z3
    refine r_if_eq (tgt := 41) hx hb dX12_readsThing_27 (by decide) g3  (fun b4 => ?_) (fun b4 => ?_)
    · have hv := hv.1 b4
      refine lv_aload_n hx hb dX12_readsThing_41 rfl (lv_at hl 0 rfl) ?_
      refine va_ldcS hx hb hC.2.1 (hLS.str_4) dX12_readsThing_42 ?_
      refine k_tcVi (wq_M τ ad) hx hb hml hC hLS hA hw hl.1 (hLS.1 4 (by decide)).2 (mX12_takesOf l D τ ad sA sV _ (sA 4) (sV 4) (bS 4) M3 hM _ hv) kX12_takesOf ml_X12_182 rfl (gM_1 τ ad M3) rfl rfl (Nat.le_of_ble_eq_true rfl) (rm_ok (by omega) (by decide)) ⟨Nat.zero_le _, Nat.zero_le _⟩ dX12_readsThing_44 (fun x5 M5 H locs g5 hM hv hw => ?_)
      have hv := hv g5
      refine lv_istore_n (lv' := [(1, .int (iI x5)), (0, .ref (ad 1))]) hx hb dX12_readsThing_47 rfl hl (by decide) rfl (fun ls hl => ?_)
      refine lv_iload_n hx hb dX12_readsThing_48 rfl (lv_at hl 0 rfl) ?_
      refine r_if_lt (tgt := 63) hx hb dX12_readsThing_49 (by decide) g5  (fun b6 => ?_) (fun b6 => ?_)
      · have hv := hv.1 b6
        refine lv_aload_n hx hb dX12_readsThing_63 rfl (lv_at hl 1 rfl) ?_
        refine gf_X12_142 hx hb hC hw 1 (gM_1 τ ad M5) rfl dX12_readsThing_64 ?_
        refine r_top (fun x7 e7 => ?_)
        have g7 : iR x7 := by rw [e7]; exact hM.get (by decide) _
        have hv := hv x7 e7 g7
        refine r_iconst hx hb dX12_readsThing_67 ?_
        refine r_icmp_eq (tgt := 80) hx hb dX12_readsThing_68 (by decide) g7 (by decide) (fun b8 => ?_) (fun b8 => ?_)
        · have hv := hv.1 b8
          refine r_iconst hx hb dX12_readsThing_80 ?_
          exact k_zret (wq_M τ ad) hx hb hr hlk hw hM (by decide) (by decide) hv dX12_readsThing_81
        · have hv := hv.2 b8
          refine lv_aload_n hx hb dX12_readsThing_71 rfl (lv_at hl 1 rfl) ?_
          refine r_bipush hx hb dX12_readsThing_72 (by decide +kernel) ?_
          refine k_cVz (wq_M τ ad) hx hb hml hC hLS hA hw hl.1 (mX12_takes l D τ ad sA sV _ 40 (by decide) M5 hM _ hv) kX12_takes ml_X12_217 rfl (gM_1 τ ad M5) rfl rfl (Nat.le_of_ble_eq_true rfl) (rm_ok (by omega) (by decide)) ⟨Nat.zero_le _, Nat.zero_le _⟩ dX12_readsThing_74 (fun x9 M9 H locs g9 z9 hM hv hw => ?_)
          have hv := hv g9 z9
          refine r_if_ne (tgt := 82) hx hb dX12_readsThing_77 (by decide) g9  (fun b10 => ?_) (fun b10 => ?_)
          · have hv := hv.1 b10
            refine lv_aload_n hx hb dX12_readsThing_82 rfl (lv_at hl 1 rfl) ?_
            refine lv_dup hx hb dX12_readsThing_83 rfl ?_
            refine gf_X12_142 hx hb hC hw 1 (gM_1 τ ad M9) rfl dX12_readsThing_84 ?_
            refine r_top (fun x11 e11 => ?_)
            have g11 : iR x11 := by rw [e11]; exact hM.get (by decide) _
            have hv := hv x11 e11 g11
            refine r_iconst hx hb dX12_readsThing_87 ?_
            refine r_iadd (z := (x11 + 1)) hx hb dX12_readsThing_88 rfl ?_
            obtain ⟨c12, hv⟩ := hv
            obtain ⟨M13, e13⟩ : ∃ M13 : Mem, M13 = up2 M9 1 17 (x11 + 1) := ⟨_, rfl⟩
            have hv := hv M13 e13
            refine pf_X12_142 (ws' := (WM τ ad M13)) hx hb hC hw 1 (gM_1 τ ad M9) (Nat.le_of_ble_eq_true rfl) (by rw [e13]; exact sM_1_17 τ ad M9 _) dX12_readsThing_89 (fun H locs hw => ?_)
            have hM : MR M13 := by rw [e13]; exact hM.put (by decide) c12
            refine lv_aload_n hx hb dX12_readsThing_92 rfl (lv_at hl 1 rfl) ?_
            refine r_iconst hx hb dX12_readsThing_93 ?_
            refine k_cVz (wq_M τ ad) hx hb hml hC hLS hA hw hl.1 (hrc_X12_readsRank _ 0 (by decide) M13 hM _ hv) kX12_readsRank ml_X12_243 rfl (gM_1 τ ad M13) rfl rfl (Nat.le_of_ble_eq_true rfl) (rm_ok (by omega) (by decide)) ⟨Nat.zero_le _, Nat.zero_le _⟩ dX12_readsThing_94 (fun x14 M14 H locs g14 z14 hM hv hw => ?_)
            have hv := hv g14 z14
            refine r_if_eq (tgt := 109) hx hb dX12_readsThing_97 (by decide) g14  (fun b15 => ?_) (fun b15 => ?_)
            · have hv := hv.1 b15
              refine r_iconst hx hb dX12_readsThing_109 ?_
              exact k_zret (wq_M τ ad) hx hb hr hlk hw hM (by decide) (by decide) hv dX12_readsThing_110
            · have hv := hv.2 b15
              refine lv_aload_n hx hb dX12_readsThing_100 rfl (lv_at hl 1 rfl) ?_
              refine r_bipush hx hb dX12_readsThing_101 (by decide +kernel) ?_
              refine k_cVz (wq_M τ ad) hx hb hml hC hLS hA hw hl.1 (mX12_takes l D τ ad sA sV _ 41 (by decide) M14 hM _ hv) kX12_takes ml_X12_217 rfl (gM_1 τ ad M14) rfl rfl (Nat.le_of_ble_eq_true rfl) (rm_ok (by omega) (by decide)) ⟨Nat.zero_le _, Nat.zero_le _⟩ dX12_readsThing_103 (fun x16 M16 H locs g16 z16 hM hv hw => ?_)
              have hv := hv g16 z16
              refine r_if_ne (tgt := 111) hx hb dX12_readsThing_106 (by decide) g16  (fun b17 => ?_) (fun b17 => ?_)
              · have hv := hv.1 b17
                refine lv_aload_n hx hb dX12_readsThing_111 rfl (lv_at hl 1 rfl) ?_
                refine lv_dup hx hb dX12_readsThing_112 rfl ?_
                refine gf_X12_142 hx hb hC hw 1 (gM_1 τ ad M16) rfl dX12_readsThing_113 ?_
                refine r_top (fun x18 e18 => ?_)
                have g18 : iR x18 := by rw [e18]; exact hM.get (by decide) _
                have hv := hv x18 e18 g18
                refine r_iconst hx hb dX12_readsThing_116 ?_
                refine r_isub (z := (x18 - 1)) hx hb dX12_readsThing_117 rfl ?_
                obtain ⟨c19, hv⟩ := hv
                obtain ⟨M20, e20⟩ : ∃ M20 : Mem, M20 = up2 M16 1 17 (x18 - 1) := ⟨_, rfl⟩
                have hv := hv M20 e20
                refine pf_X12_142 (ws' := (WM τ ad M20)) hx hb hC hw 1 (gM_1 τ ad M16) (Nat.le_of_ble_eq_true rfl) (by rw [e20]; exact sM_1_17 τ ad M16 _) dX12_readsThing_118 (fun H locs hw => ?_)
                have hM : MR M20 := by rw [e20]; exact hM.put (by decide) c19
                refine r_iconst hx hb dX12_readsThing_121 ?_
                exact k_zret (wq_M τ ad) hx hb hr hlk hw hM (by decide) (by decide) hv dX12_readsThing_122
              · have hv := hv.2 b17
                refine r_iconst hx hb dX12_readsThing_109 ?_
                exact k_zret (wq_M τ ad) hx hb hr hlk hw hM (by decide) (by decide) hv dX12_readsThing_110
          · have hv := hv.2 b10
            refine r_iconst hx hb dX12_readsThing_80 ?_
            exact k_zret (wq_M τ ad) hx hb hr hlk hw hM (by decide) (by decide) hv dX12_readsThing_81
      · have hv := hv.2 b6
        refine lv_aload_n hx hb dX12_readsThing_52 rfl (lv_at hl 1 rfl) ?_
        refine r_sipush hx hb dX12_readsThing_53 (by decide +kernel) ?_
        refine lv_iload_n hx hb dX12_readsThing_56 rfl (lv_at hl 0 rfl) ?_
        refine r_iadd (z := (1000 + x5)) hx hb dX12_readsThing_57 rfl ?_
        obtain ⟨c21, hv⟩ := hv
        refine k_cVv (wq_M τ ad) hx hb hml hC hLS hA hw hl.1 (mX12_codes l D τ ad sA sV _ (1000 + x5) c21 M5 hM _ hv) kX12_codes ml_X12_237 rfl (gM_1 τ ad M5) rfl rfl (Nat.le_of_ble_eq_true rfl) (rm_ok (by omega) (by decide)) ⟨Nat.zero_le _, Nat.zero_le _⟩ dX12_readsThing_58 (fun M22 H locs hM hv hw => ?_)
        refine r_iconst hx hb dX12_readsThing_61 ?_
        exact k_zret (wq_M τ ad) hx hb hr hlk hw hM (by decide) (by decide) hv dX12_readsThing_62
    · have hv := hv.2 b4
      refine lv_aload_n hx hb dX12_readsThing_30 rfl (lv_at hl 0 rfl) ?_
      refine lv_aload_n hx hb dX12_readsThing_31 rfl (lv_at hl 0 rfl) ?_
      refine r_iconst hx hb dX12_readsThing_32 ?_
      refine k_cVi (wq_M τ ad) hx hb hml hC hLS hA hw hl.1 (mX12_number l D τ ad sA sV _ 3 (by decide) M3 hM _ hv) kX12_number ml_X12_189 rfl (gM_1 τ ad M3) rfl rfl (Nat.le_of_ble_eq_true rfl) (rm_ok (by omega) (by decide)) ⟨Nat.zero_le _, Nat.zero_le _⟩ dX12_readsThing_33 (fun x23 M23 H locs g23 hM hv hw => ?_)
      have hv := hv g23
      refine k_cVv (wq_M τ ad) hx hb hml hC hLS hA hw hl.1 (mX12_codes l D τ ad sA sV _ x23 g23 M23 hM _ hv) kX12_codes ml_X12_237 rfl (gM_1 τ ad M23) rfl rfl (Nat.le_of_ble_eq_true rfl) (rm_ok (by omega) (by decide)) ⟨Nat.zero_le _, Nat.zero_le _⟩ dX12_readsThing_36 (fun M24 H locs hM hv hw => ?_)
      refine r_iconst hx hb dX12_readsThing_39 ?_
      exact k_zret (wq_M τ ad) hx hb hr hlk hw hM (by decide) (by decide) hv dX12_readsThing_40
  · have hv := hv.2 b2
    refine lv_aload_n hx hb dX12_readsThing_9 rfl (lv_at hl 0 rfl) ?_
    refine k_cVz (wq_M τ ad) hx hb hml hC hLS hA hw hl.1 (hrc_X12_readsThing _   M1 hM _ hv) kX12_readsThing ml_X12_234 rfl (gM_1 τ ad M1) rfl rfl (Nat.le_of_ble_eq_true rfl) (rm_ok (by omega) (by decide)) ⟨Nat.zero_le _, Nat.zero_le _⟩ dX12_readsThing_10 (fun x25 M25 H locs g25 z25 hM hv hw => ?_)
    have hv := hv g25 z25
    refine lv_istore_n (lv' := [(1, .int (iI x25)), (0, .ref (ad 1))]) hx hb dX12_readsThing_13 rfl hl (by decide) rfl (fun ls hl => ?_)
    refine lv_aload_n hx hb dX12_readsThing_14 rfl (lv_at hl 1 rfl) ?_
    refine r_sipush hx hb dX12_readsThing_15 (by decide +kernel) ?_
    refine k_cVv (wq_M τ ad) hx hb hml hC hLS hA hw hl.1 (mX12_codes l D τ ad sA sV _ 3000 (by decide) M25 hM _ hv) kX12_codes ml_X12_237 rfl (gM_1 τ ad M25) rfl rfl (Nat.le_of_ble_eq_true rfl) (rm_ok (by omega) (by decide)) ⟨Nat.zero_le _, Nat.zero_le _⟩ dX12_readsThing_18 (fun M26 H locs hM hv hw => ?_)
    refine lv_iload_n hx hb dX12_readsThing_21 rfl (lv_at hl 0 rfl) ?_
    obtain ⟨c27, hv⟩ := hv
    exact k_zret (wq_M τ ad) hx hb hr hlk hw hM g25 c27 hv dX12_readsThing_22
set_option maxHeartbeats 4000000 in
set_option maxRecDepth 100000 in
theorem bmX12_readsRank (l : Launch) (D : va_G) (τ : Nat → ClassId) (ad : Nat → Nat) (sA sV : Nat → Nat) (d : Nat) (rc : Nat → Int → Mem → (Int → Mem → Prop) → Prop) (hrc_X12_readsThing : ∀ (sz : Nat)  (M : Mem) (hM : MR M) (Q : Int → Mem → Prop), rc 0 0  M Q → Met l yX12_readsThing (lw_w yX12_readsThing cX12_readsThing 2 (some .boolean)) (rmk (6 + d) 0 0) (kPc D τ sA sV (WM τ ad M) sz [.ref (ad 1)]) (gQi D (EQz (WM τ ad) MR Q) (va_A (WM τ ad M) sz)) 0 0 (va_A (WM τ ad M) sz)) (hrc_X12_readsRank : ∀ (sz : Nat) (p1 : Int) (hp1 : iR p1) (M : Mem) (hM : MR M) (Q : Int → Mem → Prop), rc 1 p1 M Q → Met l yX12_readsRank (lw_w yX12_readsRank cX12_readsRank 4 (some .boolean)) (rmk (6 + d) 0 0) (kPc D τ sA sV (WM τ ad M) sz [.ref (ad 1), .int (iI p1)]) (gQi D (EQz (WM τ ad) MR Q) (va_A (WM τ ad M) sz)) 0 0 (va_A (WM τ ad M) sz)) (sz : Nat) (p1 : Int) (hp1 : iR p1) (M : Mem) (hM : MR M) (Q : Int → Mem → Prop) (hv : bX12_readsRank rc p1 M Q) : Met l yX12_readsRank (lw_w yX12_readsRank cX12_readsRank 4 (some .boolean)) (rmk (6 + (d + 1)) 0 0) (kPc D τ sA sV (WM τ ad M) sz [.ref (ad 1), .int (iI p1)]) (gQi D (EQz (WM τ ad) MR Q) (va_A (WM τ ad M) sz)) 0 0 (va_A (WM τ ad M) sz) := by
  refine k_met (ret := (some .boolean)) (Qc := gQi D (EQz (WM τ ad) MR Q)) (by decide +kernel) (Nat.le_of_ble_eq_true rfl) ?_
  intro p e s m args below meth c A ls hx hb hml hr hlk hnm hC hLS hA hw hl
  have hC : cx D τ s m args RX12 := hC
  have hl : lv_has ls 4 [(0, .ref (ad 1)), (1, .int (iI p1))] := hl
  unfold bX12_readsRank at hv
  have J96 : ∀ (R : Int → Mem → Prop), (∀ (v2 : Int) (M : Mem) (H : Heap) (locs : List Loc) (ls : Array Slot), MR M → R v2 M → wS D A s.heap (WM τ ad M) H locs → lv_has ls 4 [(0, .ref (ad 1)), (1, .int (iI p1)), (2, .int (iI v2))] → W p l e (rmk (6 + (d + 1)) 0 0) s m args below meth c H locs 0 0 (MQ below (gQi D (EQz (WM τ ad) MR Q) A) args s 0 0 A) (F0 m 24 ls [])) → ∀ (t0 : Int) (t1 : Int) (M : Mem) (H : Heap) (locs : List Loc) (ls : Array Slot), MR M → qX12_readsRank_J96 rc p1 R  Q t0 t1 M → wS D A s.heap (WM τ ad M) H locs → lv_has ls 4 [(0, .ref (ad 1)), (1, .int (iI p1))] → W p l e (rmk (6 + (d + 1)) 0 0) s m args below meth c H locs 0 0 (MQ below (gQi D (EQz (WM τ ad) MR Q) A) args s 0 0 A) (F0 m 96 ls [.int (iI t0), .int (iI t1), .ref (ad 1)]) := by
    intro R hR  t0 t1 M H locs ls hM hv hw hl
    unfold qX12_readsRank_J96 at hv
    refine r_iadd (z := (t1 + t0)) hx hb dX12_readsRank_96 rfl ?_
    obtain ⟨c17, hv⟩ := hv
    refine k_cVv (wq_M τ ad) hx hb hml hC hLS hA hw hl.1 (mX12_codes l D τ ad sA sV _ (t1 + t0) c17 M hM _ hv) kX12_codes ml_X12_237 rfl (gM_1 τ ad M) rfl rfl (Nat.le_of_ble_eq_true rfl) (rm_ok (by omega) (by decide)) ⟨Nat.zero_le _, Nat.zero_le _⟩ dX12_readsRank_97 (fun M18 H locs hM hv hw => ?_)
    refine lv_iload_n hx hb dX12_readsRank_100 rfl (lv_at hl 1 rfl) ?_
    refine r_if_le (tgt := 108) hx hb dX12_readsRank_101 (by decide) hp1  (fun b19 => ?_) (fun b19 => ?_)
    · have hv := hv.1 b19
      refine r_iconst hx hb dX12_readsRank_108 ?_
      refine lv_istore_n (lv' := [(2, .int (iI 0)), (0, .ref (ad 1)), (1, .int (iI p1))]) hx hb dX12_readsRank_109 rfl hl (by decide) rfl (fun ls hl => ?_)
      refine lv_goto (tgt := 24) hx hb dX12_readsRank_110 (by decide) ?_
      exact hR 0 M18 _ _ _ hM hv hw (lv_sub hl [1, 2, 0] rfl)
    · have hv := hv.2 b19
      refine r_iconst hx hb dX12_readsRank_104 ?_
      refine lv_goto (tgt := 109) hx hb dX12_readsRank_105 (by decide) ?_
      refine lv_istore_n (lv' := [(2, .int (iI 1)), (0, .ref (ad 1)), (1, .int (iI p1))]) hx hb dX12_readsRank_109 rfl hl (by decide) rfl (fun ls hl => ?_)
      refine lv_goto (tgt := 24) hx hb dX12_readsRank_110 (by decide) ?_
      exact hR 1 M18 _ _ _ hM hv hw (lv_sub hl [1, 2, 0] rfl)
  have J50 : ∀ (R : Int → Mem → Prop), (∀ (v2 : Int) (M : Mem) (H : Heap) (locs : List Loc) (ls : Array Slot), MR M → R v2 M → wS D A s.heap (WM τ ad M) H locs → lv_has ls 4 [(0, .ref (ad 1)), (1, .int (iI p1)), (2, .int (iI v2))] → W p l e (rmk (6 + (d + 1)) 0 0) s m args below meth c H locs 0 0 (MQ below (gQi D (EQz (WM τ ad) MR Q) A) args s 0 0 A) (F0 m 24 ls [])) → ∀ (t0 : Nat) (M : Mem) (H : Heap) (locs : List Loc) (ls : Array Slot), MR M → qX12_readsRank_J50 rc p1 R  Q t0 M → wS D A s.heap (WM τ ad M) H locs → lv_has ls 4 [(0, .ref (ad 1)), (1, .int (iI p1))] → W p l e (rmk (6 + (d + 1)) 0 0) s m args below meth c H locs 0 0 (MQ below (gQi D (EQz (WM τ ad) MR Q) A) args s 0 0 A) (F0 m 50 ls [.ref (sA t0), .ref (ad 1)]) := by
    intro R hR  t0 M H locs ls hM hv hw hl
    unfold qX12_readsRank_J50 at hv
    obtain ⟨c10, hv⟩ := hv
    refine k_tcVi (wq_M τ ad) hx hb hml hC hLS hA hw hl.1 (hLS.1 t0 c10).2 (mX12_takesOf l D τ ad sA sV _ (sA t0) (sV t0) (bS t0) M hM _ hv) kX12_takesOf ml_X12_182 rfl (gM_1 τ ad M) rfl rfl (Nat.le_of_ble_eq_true rfl) (rm_ok (by omega) (by decide)) ⟨Nat.zero_le _, Nat.zero_le _⟩ dX12_readsRank_50 (fun x9 M9 H locs g9 hM hv hw => ?_)
    have hv := hv g9
    refine lv_istore_n (lv' := [(3, .int (iI x9)), (0, .ref (ad 1)), (1, .int (iI p1))]) hx hb dX12_readsRank_53 rfl hl (by decide) rfl (fun ls hl => ?_)
    refine lv_iload_n hx hb dX12_readsRank_54 rfl (lv_at hl 0 rfl) ?_
    refine r_if_ge (tgt := 60) hx hb dX12_readsRank_55 (by decide) g9  (fun b11 => ?_) (fun b11 => ?_)
    · have hv := hv.1 b11
      refine lv_aload_n hx hb dX12_readsRank_60 rfl (lv_at hl 1 rfl) ?_
      refine lv_iload_n hx hb dX12_readsRank_61 rfl (lv_at hl 2 rfl) ?_
      refine r_iconst hx hb dX12_readsRank_62 ?_
      refine r_iadd (z := (p1 + 1)) hx hb dX12_readsRank_63 rfl ?_
      obtain ⟨c12, hv⟩ := hv
      refine k_cVz (wq_M τ ad) hx hb hml hC hLS hA hw hl.1 (hrc_X12_readsRank _ (p1 + 1) c12 M9 hM _ hv) kX12_readsRank ml_X12_243 rfl (gM_1 τ ad M9) rfl rfl (Nat.le_of_ble_eq_true rfl) (rm_ok (by omega) (by decide)) ⟨Nat.zero_le _, Nat.zero_le _⟩ dX12_readsRank_64 (fun x13 M13 H locs g13 z13 hM hv hw => ?_)
      have hv := hv g13 z13
      refine r_if_ne (tgt := 72) hx hb dX12_readsRank_67 (by decide) g13  (fun b14 => ?_) (fun b14 => ?_)
      · have hv := hv.1 b14
        refine lv_aload_n hx hb dX12_readsRank_72 rfl (lv_at hl 1 rfl) ?_
        refine r_sipush hx hb dX12_readsRank_73 (by decide +kernel) ?_
        refine lv_iload_n hx hb dX12_readsRank_76 rfl (lv_at hl 0 rfl) ?_
        refine r_iadd (z := (2000 + x9)) hx hb dX12_readsRank_77 rfl ?_
        refine lv_iload_n hx hb dX12_readsRank_78 rfl (lv_at hl 2 rfl) ?_
        refine r_if_ne (tgt := 86) hx hb dX12_readsRank_79 (by decide) hp1  (fun b15 => ?_) (fun b15 => ?_)
        · have hv := hv.1 b15
          refine lv_iload_n hx hb dX12_readsRank_86 rfl (lv_at hl 2 rfl) ?_
          refine r_iconst hx hb dX12_readsRank_87 ?_
          refine r_icmp_ne (tgt := 95) hx hb dX12_readsRank_88 (by decide) hp1 (by decide) (fun b16 => ?_) (fun b16 => ?_)
          · have hv := hv.1 b16
            refine r_iconst hx hb dX12_readsRank_95 ?_
            exact J96 _ hR  5 (2000 + x9) M13 _ _ _ hM hv hw (lv_sub hl [1, 2] rfl)
          · have hv := hv.2 b16
            refine r_iconst hx hb dX12_readsRank_91 ?_
            refine lv_goto (tgt := 96) hx hb dX12_readsRank_92 (by decide) ?_
            exact J96 _ hR  3 (2000 + x9) M13 _ _ _ hM hv hw (lv_sub hl [1, 2] rfl)
        · have hv := hv.2 b15
          refine r_iconst hx hb dX12_readsRank_82 ?_
          refine lv_goto (tgt := 96) hx hb dX12_readsRank_83 (by decide) ?_
          exact J96 _ hR  0 (2000 + x9) M13 _ _ _ hM hv hw (lv_sub hl [1, 2] rfl)
      · have hv := hv.2 b14
        refine r_iconst hx hb dX12_readsRank_70 ?_
        exact k_zret (wq_M τ ad) hx hb hr hlk hw hM (by decide) (by decide) hv dX12_readsRank_71
    · have hv := hv.2 b11
      refine r_iconst hx hb dX12_readsRank_58 ?_
      exact k_zret (wq_M τ ad) hx hb hr hlk hw hM (by decide) (by decide) hv dX12_readsRank_59
  have L24 : ∀ (n : Nat) (v2 : Int) (M : Mem) (H : Heap) (locs : List Loc) (ls : Array Slot), MR M → qX12_readsRank_L24 rc p1  Q n v2 M → wS D A s.heap (WM τ ad M) H locs → lv_has ls 4 [(0, .ref (ad 1)), (1, .int (iI p1)), (2, .int (iI v2))] → W p l e (rmk (6 + (d + 1)) 0 0) s m args below meth c H locs 0 0 (MQ below (gQi D (EQz (WM τ ad) MR Q) A) args s 0 0 A) (F0 m 24 ls []) := by
    intro n
    induction n with
    | zero => intro v2 M H locs ls hM hv; rw [qX12_readsRank_L24] at hv; exact hv.elim
    | succ n ih =>
      intro v2 M H locs ls hM hv hw hl
      rw [qX12_readsRank_L24] at hv
      refine lv_iload_n hx hb dX12_readsRank_24 rfl (lv_at hl 2 rfl) ?_
      obtain ⟨c5, hv⟩ := hv
      refine r_if_eq (tgt := 113) hx hb dX12_readsRank_25 (by decide) c5  (fun b6 => ?_) (fun b6 => ?_)
      · have hv := hv.1 b6
        refine r_iconst hx hb dX12_readsRank_113 ?_
        exact k_zret (wq_M τ ad) hx hb hr hlk hw hM (by decide) (by decide) hv dX12_readsRank_114
      · have hv := hv.2 b6
        refine lv_aload_n hx hb dX12_readsRank_28 rfl (lv_at hl 0 rfl) ?_
        refine lv_iload_n hx hb dX12_readsRank_29 rfl (lv_at hl 1 rfl) ?_
        refine r_if_ne (tgt := 38) hx hb dX12_readsRank_30 (by decide) hp1  (fun b7 => ?_) (fun b7 => ?_)
        · have hv := hv.1 b7
          refine lv_iload_n hx hb dX12_readsRank_38 rfl (lv_at hl 1 rfl) ?_
          refine r_iconst hx hb dX12_readsRank_39 ?_
          refine r_icmp_ne (tgt := 48) hx hb dX12_readsRank_40 (by decide) hp1 (by decide) (fun b8 => ?_) (fun b8 => ?_)
          · have hv := hv.1 b8
            refine va_ldcS hx hb hC.2.1 (hLS.str_7) dX12_readsRank_48 ?_
            exact J50 _ ih  7 M _ _ _ hM hv hw (lv_sub hl [0, 1] rfl)
          · have hv := hv.2 b8
            refine va_ldcS hx hb hC.2.1 (hLS.str_6) dX12_readsRank_43 ?_
            refine lv_goto (tgt := 50) hx hb dX12_readsRank_45 (by decide) ?_
            exact J50 _ ih  6 M _ _ _ hM hv hw (lv_sub hl [0, 1] rfl)
        · have hv := hv.2 b7
          refine va_ldcS hx hb hC.2.1 (hLS.str_5) dX12_readsRank_33 ?_
          refine lv_goto (tgt := 50) hx hb dX12_readsRank_35 (by decide) ?_
          exact J50 _ ih  5 M _ _ _ hM hv hw (lv_sub hl [0, 1] rfl)
  refine lv_iload_n hx hb dX12_readsRank_0 rfl (lv_at hl 1 rfl) ?_
  refine r_iconst hx hb dX12_readsRank_1 ?_
  refine r_icmp_ne (tgt := 10) hx hb dX12_readsRank_2 (by decide) hp1 (by decide) (fun b1 => ?_) (fun b1 => ?_)
  · have hv := hv.1 b1
    refine lv_aload_n hx hb dX12_readsRank_10 rfl (lv_at hl 0 rfl) ?_
    refine lv_iload_n hx hb dX12_readsRank_11 rfl (lv_at hl 1 rfl) ?_
    refine r_iconst hx hb dX12_readsRank_12 ?_
    refine r_iadd (z := (p1 + 1)) hx hb dX12_readsRank_13 rfl ?_
    obtain ⟨c2, hv⟩ := hv
    refine k_cVz (wq_M τ ad) hx hb hml hC hLS hA hw hl.1 (hrc_X12_readsRank _ (p1 + 1) c2 M hM _ hv) kX12_readsRank ml_X12_243 rfl (gM_1 τ ad M) rfl rfl (Nat.le_of_ble_eq_true rfl) (rm_ok (by omega) (by decide)) ⟨Nat.zero_le _, Nat.zero_le _⟩ dX12_readsRank_14 (fun x3 M3 H locs g3 z3 hM hv hw => ?_)
    have hv := hv g3 z3
    refine r_if_ne (tgt := 22) hx hb dX12_readsRank_17 (by decide) g3  (fun b4 => ?_) (fun b4 => ?_)
    · have hv := hv.1 b4
      refine r_iconst hx hb dX12_readsRank_22 ?_
      refine lv_istore_n (lv' := [(2, .int (iI 1)), (0, .ref (ad 1)), (1, .int (iI p1))]) hx hb dX12_readsRank_23 rfl hl (by decide) rfl (fun ls hl => ?_)
      obtain ⟨n20, hv⟩ := hv
      refine L24  n20 1 M3 _ _ _ hM hv hw (lv_sub hl [1, 2, 0] rfl)
    · have hv := hv.2 b4
      refine r_iconst hx hb dX12_readsRank_20 ?_
      exact k_zret (wq_M τ ad) hx hb hr hlk hw hM (by decide) (by decide) hv dX12_readsRank_21
  · have hv := hv.2 b1
    refine lv_aload_n hx hb dX12_readsRank_5 rfl (lv_at hl 0 rfl) ?_
    refine k_cVz (wq_M τ ad) hx hb hml hC hLS hA hw hl.1 (hrc_X12_readsThing _   M hM _ hv) kX12_readsThing ml_X12_234 rfl (gM_1 τ ad M) rfl rfl (Nat.le_of_ble_eq_true rfl) (rm_ok (by omega) (by decide)) ⟨Nat.zero_le _, Nat.zero_le _⟩ dX12_readsRank_6 (fun x21 M21 H locs g21 z21 hM hv hw => ?_)
    have hv := hv g21 z21
    obtain ⟨c22, hv⟩ := hv
    exact k_zret (wq_M τ ad) hx hb hr hlk hw hM g21 c22 hv dX12_readsRank_9
theorem mX12_reads (l : Launch) (D : va_G) (τ : Nat → ClassId) (ad : Nat → Nat) (sA sV : Nat → Nat) : ∀ d : Nat, (∀ (sz : Nat) (M : Mem) (hM : MR M) (Q : Int → Mem → Prop), qX12_reads d 0 0 M Q → Met l yX12_readsThing (lw_w yX12_readsThing cX12_readsThing 2 (some .boolean)) (rmk (6 + d) 0 0) (kPc D τ sA sV (WM τ ad M) sz [.ref (ad 1)]) (gQi D (EQz (WM τ ad) MR Q) (va_A (WM τ ad M) sz)) 0 0 (va_A (WM τ ad M) sz)) ∧ (∀ (sz : Nat) (p1 : Int) (hp1 : iR p1) (M : Mem) (hM : MR M) (Q : Int → Mem → Prop), qX12_reads d 1 p1 M Q → Met l yX12_readsRank (lw_w yX12_readsRank cX12_readsRank 4 (some .boolean)) (rmk (6 + d) 0 0) (kPc D τ sA sV (WM τ ad M) sz [.ref (ad 1), .int (iI p1)]) (gQi D (EQz (WM τ ad) MR Q) (va_A (WM τ ad M) sz)) 0 0 (va_A (WM τ ad M) sz)) := by
  intro d
  induction d with
  | zero => exact ⟨fun sz M hM Q hv => hv.elim, fun sz p1 hp1 M hM Q hv => hv.elim⟩
  | succ d ih => exact ⟨fun sz M hM Q hv => bmX12_readsThing l D τ ad sA sV d (qX12_reads d) ih.1 ih.2 sz M hM Q hv, fun sz p1 hp1 M hM Q hv => bmX12_readsRank l D τ ad sA sV d (qX12_reads d) ih.1 ih.2 sz p1 hp1 M hM Q hv⟩
theorem mX12_readsRank (l : Launch) (D : va_G) (τ : Nat → ClassId) (ad : Nat → Nat) (sA sV : Nat → Nat) (d sz : Nat) (p1 : Int) (hp1 : iR p1) (M : Mem) (hM : MR M) (Q : Int → Mem → Prop) (hv : qX12_readsRank d p1 M Q) : Met l yX12_readsRank (lw_w yX12_readsRank cX12_readsRank 4 (some .boolean)) (rmk (6 + d) 0 0) (kPc D τ sA sV (WM τ ad M) sz [.ref (ad 1), .int (iI p1)]) (gQi D (EQz (WM τ ad) MR Q) (va_A (WM τ ad M) sz)) 0 0 (va_A (WM τ ad M) sz) := (mX12_reads l D τ ad sA sV d).2 sz p1 hp1 M hM Q hv
set_option maxHeartbeats 4000000 in
set_option maxRecDepth 100000 in
theorem mX12_readsRule (l : Launch) (D : va_G) (τ : Nat → ClassId) (ad : Nat → Nat) (sA sV : Nat → Nat) (sz : Nat)   (M : Mem) (hM : MR M) (Q : Int → Mem → Prop) (hv : qX12_readsRule  M Q) : Met l yX12_readsRule (lw_w yX12_readsRule cX12_readsRule 3 (some .int)) (rmk 147 0 0) (kPc D τ sA sV (WM τ ad M) sz [.ref (ad 1)]) (gQi D (EQi (WM τ ad) MR Q) (va_A (WM τ ad M) sz)) 0 0 (va_A (WM τ ad M) sz) := by
  refine k_met (ret := (some .int)) (Qc := gQi D (EQi (WM τ ad) MR Q)) (by decide +kernel) (Nat.le_of_ble_eq_true rfl) ?_
  intro p e s m args below meth c A ls hx hb hml hr hlk hnm hC hLS hA hw hl
  have hC : cx D τ s m args RX12 := hC
  have hl : lv_has ls 3 [(0, .ref (ad 1))] := hl
  unfold qX12_readsRule at hv
  have J29 : ∀ (v1 : Int) (t0 : Int) (M : Mem) (H : Heap) (locs : List Loc) (ls : Array Slot), MR M → qX12_readsRule_J29  Q v1 t0 M → wS D A s.heap (WM τ ad M) H locs → lv_has ls 3 [(0, .ref (ad 1)), (1, .int (iI v1))] → W p l e (rmk 147 0 0) s m args below meth c H locs 0 0 (MQ below (gQi D (EQi (WM τ ad) MR Q) A) args s 0 0 A) (F0 m 29 ls [.int (iI t0)]) := by
    intro v1 t0 M H locs ls hM hv hw hl
    unfold qX12_readsRule_J29 at hv
    refine lv_istore_n (lv' := [(2, .int (iI t0)), (0, .ref (ad 1)), (1, .int (iI v1))]) hx hb dX12_readsRule_29 rfl hl (by decide) rfl (fun ls hl => ?_)
    refine lv_aload_n hx hb dX12_readsRule_30 rfl (lv_at hl 1 rfl) ?_
    refine lv_iload_n hx hb dX12_readsRule_31 rfl (lv_at hl 2 rfl) ?_
    refine r_bipush hx hb dX12_readsRule_32 (by decide +kernel) ?_
    refine lv_iload_n hx hb dX12_readsRule_34 rfl (lv_at hl 0 rfl) ?_
    obtain ⟨c4, hv⟩ := hv
    obtain ⟨c5, hv⟩ := hv
    refine k_cVi (wq_M τ ad) hx hb hml hC hLS hA hw hl.1 (mX12_faultOf l D τ ad sA sV _ v1 40 t0 c4 (by decide) c5 M hM _ hv) kX12_faultOf ml_X12_221 rfl (gM_1 τ ad M) rfl rfl (Nat.le_of_ble_eq_true rfl) (rm_ok (by decide) (by decide)) ⟨Nat.zero_le _, Nat.zero_le _⟩ dX12_readsRule_35 (fun x6 M6 H locs g6 hM hv hw => ?_)
    have hv := hv g6
    exact k_iret (wq_M τ ad) hx hb hr hlk hw hM g6 hv dX12_readsRule_38
  have J24 : ∀ (v1 : Int) (M : Mem) (H : Heap) (locs : List Loc) (ls : Array Slot), MR M → qX12_readsRule_J24  Q v1 M → wS D A s.heap (WM τ ad M) H locs → lv_has ls 3 [(0, .ref (ad 1)), (1, .int (iI v1))] → W p l e (rmk 147 0 0) s m args below meth c H locs 0 0 (MQ below (gQi D (EQi (WM τ ad) MR Q) A) args s 0 0 A) (F0 m 24 ls []) := by
    intro v1 M H locs ls hM hv hw hl
    unfold qX12_readsRule_J24 at hv
    refine r_iconst hx hb dX12_readsRule_24 ?_
    refine lv_goto (tgt := 29) hx hb dX12_readsRule_25 (by decide) ?_
    exact J29 v1 1 M _ _ _ hM hv hw (lv_sub hl [0, 1] rfl)
  refine lv_aload_n hx hb dX12_readsRule_0 rfl (lv_at hl 0 rfl) ?_
  refine r_bipush hx hb dX12_readsRule_1 (by decide +kernel) ?_
  refine k_cVi (wq_M τ ad) hx hb hml hC hLS hA hw hl.1 (mX12_begins l D τ ad sA sV _ 40 (by decide) M hM _ hv) kX12_begins ml_X12_176 rfl (gM_1 τ ad M) rfl rfl (Nat.le_of_ble_eq_true rfl) (rm_ok (by decide) (by decide)) ⟨Nat.zero_le _, Nat.zero_le _⟩ dX12_readsRule_3 (fun x1 M1 H locs g1 hM hv hw => ?_)
  have hv := hv g1
  refine lv_istore_n (lv' := [(1, .int (iI x1)), (0, .ref (ad 1))]) hx hb dX12_readsRule_6 rfl hl (by decide) rfl (fun ls hl => ?_)
  refine lv_aload_n hx hb dX12_readsRule_7 rfl (lv_at hl 1 rfl) ?_
  refine r_iconst hx hb dX12_readsRule_8 ?_
  obtain ⟨M2, e2⟩ : ∃ M2 : Mem, M2 = up2 M1 1 25 0 := ⟨_, rfl⟩
  have hv := hv M2 e2
  refine pf_X12_231 (ws' := (WM τ ad M2)) hx hb hC hw 1 (gM_1 τ ad M1) (Nat.le_of_ble_eq_true rfl) (by rw [e2]; exact sM_1_25 τ ad M1 _) dX12_readsRule_9 (fun H locs hw => ?_)
  have hM : MR M2 := by rw [e2]; exact hM.put (by decide) (by decide)
  refine lv_iload_n hx hb dX12_readsRule_12 rfl (lv_at hl 0 rfl) ?_
  refine r_if_eq (tgt := 24) hx hb dX12_readsRule_13 (by decide) g1  (fun b3 => ?_) (fun b3 => ?_)
  · have hv := hv.1 b3
    exact J24 x1 M2 _ _ _ hM hv hw (lv_sub hl [1, 0] rfl)
  · have hv := hv.2 b3
    refine lv_aload_n hx hb dX12_readsRule_16 rfl (lv_at hl 1 rfl) ?_
    refine r_iconst hx hb dX12_readsRule_17 ?_
    obtain ⟨d8, hd8, hv⟩ := hv
    refine k_cVz (wq_M τ ad) hx hb hml hC hLS hA hw hl.1 (mX12_readsRank l D τ ad sA sV d8 _ 0 (by decide) M2 hM _ hv) kX12_readsRank ml_X12_243 rfl (gM_1 τ ad M2) rfl rfl (Nat.le_of_ble_eq_true rfl) (rm_ok (by omega) (by decide)) ⟨Nat.zero_le _, Nat.zero_le _⟩ dX12_readsRule_18 (fun x7 M7 H locs g7 z7 hM hv hw => ?_)
    have hv := hv g7 z7
    refine r_if_eq (tgt := 28) hx hb dX12_readsRule_21 (by decide) g7  (fun b9 => ?_) (fun b9 => ?_)
    · have hv := hv.1 b9
      refine r_iconst hx hb dX12_readsRule_28 ?_
      exact J29 x1 0 M7 _ _ _ hM hv hw (lv_sub hl [1, 0] rfl)
    · have hv := hv.2 b9
      exact J24 x1 M7 _ _ _ hM hv hw (lv_sub hl [1, 0] rfl)
set_option maxHeartbeats 4000000 in
set_option maxRecDepth 100000 in
theorem mX12_rule (l : Launch) (D : va_G) (τ : Nat → ClassId) (ad : Nat → Nat) (sA sV : Nat → Nat) (sz : Nat)   (M : Mem) (hM : MR M) (Q : Int → Mem → Prop) (hv : qX12_rule  M Q) : Met l yX12_rule (lw_w yX12_rule cX12_rule 2 (some .int)) (rmk 148 0 0) (kPc D τ sA sV (WM τ ad M) sz [.ref (ad 1)]) (gQi D (EQi (WM τ ad) MR Q) (va_A (WM τ ad M) sz)) 0 0 (va_A (WM τ ad M) sz) := by
  refine k_met (ret := (some .int)) (Qc := gQi D (EQi (WM τ ad) MR Q)) (by decide +kernel) (Nat.le_of_ble_eq_true rfl) ?_
  intro p e s m args below meth c A ls hx hb hml hr hlk hnm hC hLS hA hw hl
  have hC : cx D τ s m args RX12 := hC
  have hl : lv_has ls 2 [(0, .ref (ad 1))] := hl
  unfold qX12_rule at hv
  refine lv_aload_n hx hb dX12_rule_0 rfl (lv_at hl 0 rfl) ?_
  refine r_iconst hx hb dX12_rule_1 ?_
  obtain ⟨M1, e1⟩ : ∃ M1 : Mem, M1 = up2 M 1 0 0 := ⟨_, rfl⟩
  have hv := hv M1 e1
  refine pf_X12_112 (ws' := (WM τ ad M1)) hx hb hC hw 1 (gM_1 τ ad M) (Nat.le_of_ble_eq_true rfl) (by rw [e1]; exact sM_1_0 τ ad M _) dX12_rule_2 (fun H locs hw => ?_)
  have hM : MR M1 := by rw [e1]; exact hM.put (by decide) (by decide)
  refine lv_aload_n hx hb dX12_rule_5 rfl (lv_at hl 0 rfl) ?_
  refine k_cVi (wq_M τ ad) hx hb hml hC hLS hA hw hl.1 (mX12_readsRule l D τ ad sA sV _   M1 hM _ hv) kX12_readsRule ml_X12_255 rfl (gM_1 τ ad M1) rfl rfl (Nat.le_of_ble_eq_true rfl) (rm_ok (by decide) (by decide)) ⟨Nat.zero_le _, Nat.zero_le _⟩ dX12_rule_6 (fun x2 M2 H locs g2 hM hv hw => ?_)
  have hv := hv g2
  refine lv_istore_n (lv' := [(1, .int (iI x2)), (0, .ref (ad 1))]) hx hb dX12_rule_9 rfl hl (by decide) rfl (fun ls hl => ?_)
  refine lv_iload_n hx hb dX12_rule_10 rfl (lv_at hl 0 rfl) ?_
  refine r_if_ne (tgt := 26) hx hb dX12_rule_11 (by decide) g2  (fun b3 => ?_) (fun b3 => ?_)
  · have hv := hv.1 b3
    refine lv_iload_n hx hb dX12_rule_26 rfl (lv_at hl 0 rfl) ?_
    exact k_iret (wq_M τ ad) hx hb hr hlk hw hM g2 hv dX12_rule_27
  · have hv := hv.2 b3
    refine lv_aload_n hx hb dX12_rule_14 rfl (lv_at hl 1 rfl) ?_
    refine lv_aload_n hx hb dX12_rule_15 rfl (lv_at hl 1 rfl) ?_
    refine gf_X12_52 hx hb hC hw 1 (gM_1 τ ad M2) rfl dX12_rule_16 ?_
    refine lv_aload_n hx hb dX12_rule_19 rfl (lv_at hl 1 rfl) ?_
    refine gf_X12_231 hx hb hC hw 1 (gM_1 τ ad M2) rfl dX12_rule_20 ?_
    refine r_top (fun x4 e4 => ?_)
    have g4 : iR x4 := by rw [e4]; exact hM.get (by decide) _
    have hv := hv x4 e4 g4
    refine k_cVv (wq_M τ ad) hx hb hml hC hLS hA hw hl.1 (mX12_laysCode l D τ ad sA sV _ 12 x4 aM_12 g4 M2 hM _ hv) kX12_laysCode ml_X12_258 rfl (gM_1 τ ad M2) rfl rfl (Nat.le_of_ble_eq_true rfl) (rm_ok (by decide) (by decide)) ⟨Nat.zero_le _, Nat.zero_le _⟩ dX12_rule_23 (fun M5 H locs hM hv hw => ?_)
    refine lv_iload_n hx hb dX12_rule_26 rfl (lv_at hl 0 rfl) ?_
    exact k_iret (wq_M τ ad) hx hb hr hlk hw hM g2 hv dX12_rule_27
set_option maxHeartbeats 4000000 in
set_option maxRecDepth 100000 in
theorem mX12_bitsBy (l : Launch) (D : va_G) (τ : Nat → ClassId) (ad : Nat → Nat) (sA sV : Nat → Nat) (sz : Nat) (k1 : Nat) (p2 : Int) (p3 : Int) (hk1 : MI 38 k1) (hp2 : iR p2) (hp3 : iR p3) (M : Mem) (hM : MR M) (Q : Int → Mem → Prop) (hv : qX12_bitsBy k1 p2 p3 M Q) : Met l yX12_bitsBy (lw_w yX12_bitsBy cX12_bitsBy 6 (some .int)) (rmk 1 0 0) (kPc D τ sA sV (WM τ ad M) sz [.ref (ad 1), .ref (ad k1), .int (iI p2), .int (iI p3)]) (gQi D (EQi (WM τ ad) MR Q) (va_A (WM τ ad M) sz)) 0 0 (va_A (WM τ ad M) sz) := by
  refine k_met (ret := (some .int)) (Qc := gQi D (EQi (WM τ ad) MR Q)) (by decide +kernel) (Nat.le_of_ble_eq_true rfl) ?_
  intro p e s m args below meth c A ls hx hb hml hr hlk hnm hC hLS hA hw hl
  have hC : cx D τ s m args RX12 := hC
  have hl : lv_has ls 6 [(0, .ref (ad 1)), (1, .ref (ad k1)), (2, .int (iI p2)), (3, .int (iI p3))] := hl
  unfold qX12_bitsBy at hv
  have L6 : ∀ (n : Nat) (v4 : Int) (v5 : Int) (M : Mem) (H : Heap) (locs : List Loc) (ls : Array Slot), MR M → qX12_bitsBy_L6 k1 p2 p3  Q n v4 v5 M → wS D A s.heap (WM τ ad M) H locs → lv_has ls 6 [(0, .ref (ad 1)), (1, .ref (ad k1)), (2, .int (iI p2)), (3, .int (iI p3)), (4, .int (iI v4)), (5, .int (iI v5))] → W p l e (rmk 1 0 0) s m args below meth c H locs 0 0 (MQ below (gQi D (EQi (WM τ ad) MR Q) A) args s 0 0 A) (F0 m 6 ls []) := by
    intro n
    induction n with
    | zero => intro v4 v5 M H locs ls hM hv; rw [qX12_bitsBy_L6] at hv; exact hv.elim
    | succ n ih =>
      intro v4 v5 M H locs ls hM hv hw hl
      rw [qX12_bitsBy_L6] at hv
      refine lv_iload hx hb dX12_bitsBy_6 (lv_at hl 5 rfl) ?_
      refine lv_aload_n hx hb dX12_bitsBy_8 rfl (lv_at hl 0 rfl) ?_
      refine gf_X12_129 hx hb hC hw 1 (gM_1 τ ad M) rfl dX12_bitsBy_9 ?_
      refine r_top (fun x1 e1 => ?_)
      have g1 : iR x1 := by rw [e1]; exact hM.get (by decide) _
      have hv := hv x1 e1 g1
      obtain ⟨c2, hv⟩ := hv
      refine r_icmp_ge (tgt := 44) hx hb dX12_bitsBy_12 (by decide) c2 g1 (fun b3 => ?_) (fun b3 => ?_)
      · have hv := hv.1 b3
        refine lv_iload hx hb dX12_bitsBy_44 (lv_at hl 4 rfl) ?_
        obtain ⟨c4, hv⟩ := hv
        exact k_iret (wq_M τ ad) hx hb hr hlk hw hM c4 hv dX12_bitsBy_46
      · have hv := hv.2 b3
        refine lv_iload hx hb dX12_bitsBy_15 (lv_at hl 4 rfl) ?_
        refine lv_aload_n hx hb dX12_bitsBy_17 rfl (lv_at hl 1 rfl) ?_
        refine lv_iload_n hx hb dX12_bitsBy_18 rfl (lv_at hl 2 rfl) ?_
        refine lv_iload hx hb dX12_bitsBy_19 (lv_at hl 5 rfl) ?_
        refine r_iadd (z := (p2 + v5)) hx hb dX12_bitsBy_21 rfl ?_
        obtain ⟨c5, hv⟩ := hv
        obtain ⟨c6, hv⟩ := hv
        refine r_iald hx hb hC hw k1 (gI_M hk1 τ ad M) c5 c6 (by decide) dX12_bitsBy_22 ?_
        refine r_top (fun x7 e7 => ?_)
        have g7 : iR x7 := by rw [e7]; exact hM.get hk1.pos _
        have hv := hv x7 e7 g7
        refine lv_iload_n hx hb dX12_bitsBy_23 rfl (lv_at hl 3 rfl) ?_
        refine r_icmp_ne (tgt := 34) hx hb dX12_bitsBy_24 (by decide) g7 hp3 (fun b8 => ?_) (fun b8 => ?_)
        · have hv := hv.1 b8
          refine r_iconst hx hb dX12_bitsBy_34 ?_
          refine r_iorF hx hb dX12_bitsBy_35 (fun x9 e9 g9 => ?_)
          have hv := hv x9 e9 g9
          refine lv_istore (lv' := [(4, .int (iI x9)), (0, .ref (ad 1)), (1, .ref (ad k1)), (2, .int (iI p2)), (3, .int (iI p3)), (5, .int (iI v5))]) hx hb dX12_bitsBy_36 hl (by decide) rfl (fun ls hl => ?_)
          refine r_iinc (v := (v5 + 1)) (lv' := [(5, .int (iI (v5 + 1))), (4, .int (iI x9)), (0, .ref (ad 1)), (1, .ref (ad k1)), (2, .int (iI p2)), (3, .int (iI p3))]) hx hb dX12_bitsBy_38 hl (k := 5) rfl rfl (by decide) rfl (fun ls hl => ?_)
          refine lv_goto (tgt := 6) hx hb dX12_bitsBy_41 (by decide) ?_
          exact ih x9 (v5 + 1) M _ _ _ hM hv hw (lv_sub hl [2, 3, 4, 5, 1, 0] rfl)
        · have hv := hv.2 b8
          refine r_iconst hx hb dX12_bitsBy_27 ?_
          refine lv_iload hx hb dX12_bitsBy_28 (lv_at hl 5 rfl) ?_
          refine r_ishlF hx hb dX12_bitsBy_30 (fun x10 e10 g10 => ?_)
          have hv := hv x10 e10 g10
          refine lv_goto (tgt := 35) hx hb dX12_bitsBy_31 (by decide) ?_
          refine r_iorF hx hb dX12_bitsBy_35 (fun x11 e11 g11 => ?_)
          have hv := hv x11 e11 g11
          refine lv_istore (lv' := [(4, .int (iI x11)), (0, .ref (ad 1)), (1, .ref (ad k1)), (2, .int (iI p2)), (3, .int (iI p3)), (5, .int (iI v5))]) hx hb dX12_bitsBy_36 hl (by decide) rfl (fun ls hl => ?_)
          refine r_iinc (v := (v5 + 1)) (lv' := [(5, .int (iI (v5 + 1))), (4, .int (iI x11)), (0, .ref (ad 1)), (1, .ref (ad k1)), (2, .int (iI p2)), (3, .int (iI p3))]) hx hb dX12_bitsBy_38 hl (k := 5) rfl rfl (by decide) rfl (fun ls hl => ?_)
          refine lv_goto (tgt := 6) hx hb dX12_bitsBy_41 (by decide) ?_
          exact ih x11 (v5 + 1) M _ _ _ hM hv hw (lv_sub hl [2, 3, 4, 5, 1, 0] rfl)
  refine r_iconst hx hb dX12_bitsBy_0 ?_
  refine lv_istore (lv' := [(4, .int (iI 0)), (0, .ref (ad 1)), (1, .ref (ad k1)), (2, .int (iI p2)), (3, .int (iI p3))]) hx hb dX12_bitsBy_1 hl (by decide) rfl (fun ls hl => ?_)
  refine r_iconst hx hb dX12_bitsBy_3 ?_
  refine lv_istore (lv' := [(5, .int (iI 0)), (4, .int (iI 0)), (0, .ref (ad 1)), (1, .ref (ad k1)), (2, .int (iI p2)), (3, .int (iI p3))]) hx hb dX12_bitsBy_4 hl (by decide) rfl (fun ls hl => ?_)
  obtain ⟨n12, hv⟩ := hv
  refine L6  n12 0 0 M _ _ _ hM hv hw (lv_sub hl [2, 3, 4, 5, 1, 0] rfl)
set_option maxHeartbeats 4000000 in
set_option maxRecDepth 100000 in
theorem mX12_isHearse (l : Launch) (D : va_G) (τ : Nat → ClassId) (ad : Nat → Nat) (sA sV : Nat → Nat) (sz : Nat) (p1 : Int) (hp1 : iR p1) (M : Mem) (hM : MR M) (Q : Int → Mem → Prop) (hv : qX12_isHearse p1 M Q) : Met l yX12_isHearse (lw_w yX12_isHearse cX12_isHearse 2 (some .boolean)) (rmk 2 0 0) (kPc D τ sA sV (WM τ ad M) sz [.ref (ad 1), .int (iI p1)]) (gQi D (EQz (WM τ ad) MR Q) (va_A (WM τ ad M) sz)) 0 0 (va_A (WM τ ad M) sz) := by
  refine k_met (ret := (some .boolean)) (Qc := gQi D (EQz (WM τ ad) MR Q)) (by decide +kernel) (Nat.le_of_ble_eq_true rfl) ?_
  intro p e s m args below meth c A ls hx hb hml hr hlk hnm hC hLS hA hw hl
  have hC : cx D τ s m args RX12 := hC
  have hl : lv_has ls 2 [(0, .ref (ad 1)), (1, .int (iI p1))] := hl
  unfold qX12_isHearse at hv
  refine lv_iload_n hx hb dX12_isHearse_0 rfl (lv_at hl 1 rfl) ?_
  refine r_i2l hx hb dX12_isHearse_1 hp1 ?_
  refine r_lconst (z := 0) hx hb dX12_isHearse_2 (by decide +kernel) ?_
  refine lv_aload_n hx hb dX12_isHearse_3 rfl (lv_at hl 0 rfl) ?_
  refine gf_X12_122 hx hb hC hw 1 (gM_1 τ ad M) rfl dX12_isHearse_4 ?_
  refine r_top (fun x1 e1 => ?_)
  have g1 : iR x1 := by rw [e1]; exact hM.get (by decide) _
  have hv := hv x1 e1 g1
  refine r_iconst hx hb dX12_isHearse_7 ?_
  refine r_isub (z := (x1 - 1)) hx hb dX12_isHearse_8 rfl ?_
  obtain ⟨c2, hv⟩ := hv
  refine r_i2l hx hb dX12_isHearse_9 c2 ?_
  refine k_cSz (wq_M τ ad) hx hb hml hC hLS hA hw hl.1 (mX12_in l D τ ad sA sV _ p1 0 (x1 - 1) (iR_lR hp1) (by decide) (iR_lR c2) M hM _ hv) kX12_in ml_X12_125 rfl rfl (Nat.le_of_ble_eq_true rfl) (rm_ok (by decide) (by decide)) ⟨Nat.zero_le _, Nat.zero_le _⟩ dX12_isHearse_10 (fun x3 M3 H locs g3 z3 hM hv hw => ?_)
  have hv := hv g3 z3
  obtain ⟨c4, hv⟩ := hv
  exact k_zret (wq_M τ ad) hx hb hr hlk hw hM g3 c4 hv dX12_isHearse_13
set_option maxHeartbeats 4000000 in
set_option maxRecDepth 100000 in
theorem mX12_owners (l : Launch) (D : va_G) (τ : Nat → ClassId) (ad : Nat → Nat) (sA sV : Nat → Nat) (sz : Nat) (p1 : Int) (hp1 : iR p1) (M : Mem) (hM : MR M) (Q : Int → Mem → Prop) (hv : qX12_owners p1 M Q) : Met l yX12_owners (lw_w yX12_owners cX12_owners 4 (some .int)) (rmk 1 0 0) (kPc D τ sA sV (WM τ ad M) sz [.ref (ad 1), .int (iI p1)]) (gQi D (EQi (WM τ ad) MR Q) (va_A (WM τ ad M) sz)) 0 0 (va_A (WM τ ad M) sz) := by
  refine k_met (ret := (some .int)) (Qc := gQi D (EQi (WM τ ad) MR Q)) (by decide +kernel) (Nat.le_of_ble_eq_true rfl) ?_
  intro p e s m args below meth c A ls hx hb hml hr hlk hnm hC hLS hA hw hl
  have hC : cx D τ s m args RX12 := hC
  have hl : lv_has ls 4 [(0, .ref (ad 1)), (1, .int (iI p1))] := hl
  unfold qX12_owners at hv
  have L4 : ∀ (n : Nat) (v2 : Int) (v3 : Int) (M : Mem) (H : Heap) (locs : List Loc) (ls : Array Slot), MR M → qX12_owners_L4 p1  Q n v2 v3 M → wS D A s.heap (WM τ ad M) H locs → lv_has ls 4 [(0, .ref (ad 1)), (1, .int (iI p1)), (2, .int (iI v2)), (3, .int (iI v3))] → W p l e (rmk 1 0 0) s m args below meth c H locs 0 0 (MQ below (gQi D (EQi (WM τ ad) MR Q) A) args s 0 0 A) (F0 m 4 ls []) := by
    intro n
    induction n with
    | zero => intro v2 v3 M H locs ls hM hv; rw [qX12_owners_L4] at hv; exact hv.elim
    | succ n ih =>
      intro v2 v3 M H locs ls hM hv hw hl
      rw [qX12_owners_L4] at hv
      refine lv_iload_n hx hb dX12_owners_4 rfl (lv_at hl 3 rfl) ?_
      refine lv_aload_n hx hb dX12_owners_5 rfl (lv_at hl 0 rfl) ?_
      refine gf_X12_129 hx hb hC hw 1 (gM_1 τ ad M) rfl dX12_owners_6 ?_
      refine r_top (fun x1 e1 => ?_)
      have g1 : iR x1 := by rw [e1]; exact hM.get (by decide) _
      have hv := hv x1 e1 g1
      obtain ⟨c2, hv⟩ := hv
      refine r_icmp_ge (tgt := 38) hx hb dX12_owners_9 (by decide) c2 g1 (fun b3 => ?_) (fun b3 => ?_)
      · have hv := hv.1 b3
        refine lv_iload_n hx hb dX12_owners_38 rfl (lv_at hl 2 rfl) ?_
        obtain ⟨c4, hv⟩ := hv
        exact k_iret (wq_M τ ad) hx hb hr hlk hw hM c4 hv dX12_owners_39
      · have hv := hv.2 b3
        refine lv_iload_n hx hb dX12_owners_12 rfl (lv_at hl 2 rfl) ?_
        refine lv_aload_n hx hb dX12_owners_13 rfl (lv_at hl 0 rfl) ?_
        refine gf_X12_24 hx hb hC hw 1 (gM_1 τ ad M) rfl dX12_owners_14 ?_
        refine lv_iload_n hx hb dX12_owners_17 rfl (lv_at hl 3 rfl) ?_
        obtain ⟨c5, hv⟩ := hv
        obtain ⟨c6, hv⟩ := hv
        refine r_iald hx hb hC hw 3 (gI_M aM_3 τ ad M) c5 c6 (by decide) dX12_owners_18 ?_
        refine r_top (fun x7 e7 => ?_)
        have g7 : iR x7 := by rw [e7]; exact hM.get aM_3.pos _
        have hv := hv x7 e7 g7
        refine lv_iload_n hx hb dX12_owners_19 rfl (lv_at hl 1 rfl) ?_
        refine r_icmp_ne (tgt := 29) hx hb dX12_owners_20 (by decide) g7 hp1 (fun b8 => ?_) (fun b8 => ?_)
        · have hv := hv.1 b8
          refine r_iconst hx hb dX12_owners_29 ?_
          refine r_iorF hx hb dX12_owners_30 (fun x9 e9 g9 => ?_)
          have hv := hv x9 e9 g9
          refine lv_istore_n (lv' := [(2, .int (iI x9)), (0, .ref (ad 1)), (1, .int (iI p1)), (3, .int (iI v3))]) hx hb dX12_owners_31 rfl hl (by decide) rfl (fun ls hl => ?_)
          refine r_iinc (v := (v3 + 1)) (lv' := [(3, .int (iI (v3 + 1))), (2, .int (iI x9)), (0, .ref (ad 1)), (1, .int (iI p1))]) hx hb dX12_owners_32 hl (k := 3) rfl rfl (by decide) rfl (fun ls hl => ?_)
          refine lv_goto (tgt := 4) hx hb dX12_owners_35 (by decide) ?_
          exact ih x9 (v3 + 1) M _ _ _ hM hv hw (lv_sub hl [2, 3, 1, 0] rfl)
        · have hv := hv.2 b8
          refine r_iconst hx hb dX12_owners_23 ?_
          refine lv_iload_n hx hb dX12_owners_24 rfl (lv_at hl 3 rfl) ?_
          refine r_ishlF hx hb dX12_owners_25 (fun x10 e10 g10 => ?_)
          have hv := hv x10 e10 g10
          refine lv_goto (tgt := 30) hx hb dX12_owners_26 (by decide) ?_
          refine r_iorF hx hb dX12_owners_30 (fun x11 e11 g11 => ?_)
          have hv := hv x11 e11 g11
          refine lv_istore_n (lv' := [(2, .int (iI x11)), (0, .ref (ad 1)), (1, .int (iI p1)), (3, .int (iI v3))]) hx hb dX12_owners_31 rfl hl (by decide) rfl (fun ls hl => ?_)
          refine r_iinc (v := (v3 + 1)) (lv' := [(3, .int (iI (v3 + 1))), (2, .int (iI x11)), (0, .ref (ad 1)), (1, .int (iI p1))]) hx hb dX12_owners_32 hl (k := 3) rfl rfl (by decide) rfl (fun ls hl => ?_)
          refine lv_goto (tgt := 4) hx hb dX12_owners_35 (by decide) ?_
          exact ih x11 (v3 + 1) M _ _ _ hM hv hw (lv_sub hl [2, 3, 1, 0] rfl)
  refine r_iconst hx hb dX12_owners_0 ?_
  refine lv_istore_n (lv' := [(2, .int (iI 0)), (0, .ref (ad 1)), (1, .int (iI p1))]) hx hb dX12_owners_1 rfl hl (by decide) rfl (fun ls hl => ?_)
  refine r_iconst hx hb dX12_owners_2 ?_
  refine lv_istore_n (lv' := [(3, .int (iI 0)), (2, .int (iI 0)), (0, .ref (ad 1)), (1, .int (iI p1))]) hx hb dX12_owners_3 rfl hl (by decide) rfl (fun ls hl => ?_)
  obtain ⟨n12, hv⟩ := hv
  refine L4  n12 0 0 M _ _ _ hM hv hw (lv_sub hl [2, 3, 1, 0] rfl)
end
