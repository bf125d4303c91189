set_option maxHeartbeats 4000000 in
set_option maxRecDepth 100000 in
theorem mX11_hearse (l : Launch) (hst : l.stackTraces = false) (D : va_G) (τ : Nat → ClassId) (ad : Nat → Nat) (sA sV : Nat → Nat) (sz : Nat) (p1 : Int) (p2 : Int) (hp1 : iR p1) (hp2 : iR p2) (M : Mem) (hM : MR M) (Q : Int → Mem → Prop) (E : Mem → Prop) (hv : qX11_hearse p1 p2 M Q E) : vx_Met l yX11_hearse (lw_w yX11_hearse cX11_hearse 3 (some .int)) (rmk 8 1 6) (xPc D τ sA sV (WX τ ad M) sz [.ref (ad 155), .int (iI p1), .int (iI p2)]) (gQi D (EQi (WX τ ad) MR Q) (va_A (WX τ ad M) sz)) (XCQ D (WX τ ad) E (va_A (WX τ ad M) sz)) 1 6 (va_A (WX τ ad M) sz) := by
  refine x_met (ret := (some .int)) (Qc := gQi D (EQi (WX τ ad) MR Q)) (XC := XCQ D (WX τ ad) E) (by decide +kernel) (Nat.le_of_ble_eq_true rfl) ?_
  intro p e s m args below meth c A ls hx hb hml hr hlk hC hLS hX htab hA hw hl
  have hC : cx D τ s m args RX11 := hC
  have hl : lv_has ls 3 [(0, .ref (ad 155)), (1, .int (iI p1)), (2, .int (iI p2))] := hl
  unfold qX11_hearse at hv
  refine lv_aload_n hx hb dX11_hearse_0 rfl (lv_at hl 0 rfl) ?_
  refine gf_X11_26 hx hb hC hw 155 (gX_155 τ ad M) rfl dX11_hearse_1 ?_
  refine lv_iload_n hx hb dX11_hearse_4 rfl (lv_at hl 1 rfl) ?_
  refine k_cVz (wq_X τ ad) hx hb hml hC hLS hA hw hl.1 (mX6_isHearse l D τ ad sA sV _ 1 p1 (by decide) hp1 M hM _ hv) kX6_isHearse ml_X11_220 rfl (gS_X (by decide) τ ad M) rfl rfl (Nat.le_of_ble_eq_true rfl) (rm_ok (by decide) (by decide)) ⟨by show _ ≤ 1; omega, by show _ ≤ 6; omega⟩ dX11_hearse_5 (fun x1 M1 H locs g1 z1 hM hv hw => ?_)
  have hv := hv g1 z1
  refine r_if_ne (tgt := 21) hx hb dX11_hearse_8 (by decide) g1  (fun b2 => ?_) (fun b2 => ?_)
  · have hv := hv.1 b2
    refine lv_iload_n hx hb dX11_hearse_21 rfl (lv_at hl 2 rfl) ?_
    rcases (show p2 = 0 ∨ p2 = 1 ∨ p2 = 2 ∨ p2 = 3 ∨ p2 = 4 ∨ p2 = 5 ∨ (p2 < 0 ∨ 5 < p2) by omega) with b3 | b3 | b3 | b3 | b3 | b3 | b3
    · refine r_tblI (tgt := 60) hx hb dX11_hearse_22 hp2 (by omega) (by omega) (by rw [b3]; first | done | rfl) (by decide) ?_
      have hv := hv.1 b3
      refine lv_aload_n hx hb dX11_hearse_60 rfl (lv_at hl 0 rfl) ?_
      refine gf_X11_26 hx hb hC hw 155 (gX_155 τ ad M1) rfl dX11_hearse_61 ?_
      refine gf_X11_230 hx hb hC hw 1 (gS_X (by decide) τ ad M1) rfl dX11_hearse_64 ?_
      refine lv_iload_n hx hb dX11_hearse_67 rfl (lv_at hl 1 rfl) ?_
      obtain ⟨c4, hv⟩ := hv
      obtain ⟨c5, hv⟩ := hv
      refine r_iald hx hb hC hw 2 (gI_X (isS_f0 (by decide)) τ ad M1) c4 c5 (by decide) dX11_hearse_68 ?_
      refine r_top (fun x6 e6 => ?_)
      have g6 : iR x6 := by rw [e6]; exact hM.get (isS_f0 (by decide)).pos _
      have hv := hv x6 e6 g6
      refine vx_ret ?_
      refine W.widen (k := 1) (n := 6) (by omega) (by omega) ?_
      exact k_iret (wq_X τ ad) hx hb hr hlk hw hM g6 hv dX11_hearse_69
    · refine r_tblI (tgt := 70) hx hb dX11_hearse_22 hp2 (by omega) (by omega) (by rw [b3]; first | done | rfl) (by decide) ?_
      have hv := hv.2.1 b3
      refine lv_aload_n hx hb dX11_hearse_70 rfl (lv_at hl 0 rfl) ?_
      refine gf_X11_26 hx hb hC hw 155 (gX_155 τ ad M1) rfl dX11_hearse_71 ?_
      refine gf_X11_234 hx hb hC hw 1 (gS_X (by decide) τ ad M1) rfl dX11_hearse_74 ?_
      refine lv_iload_n hx hb dX11_hearse_77 rfl (lv_at hl 1 rfl) ?_
      obtain ⟨c7, hv⟩ := hv
      obtain ⟨c8, hv⟩ := hv
      refine r_iald hx hb hC hw 3 (gI_X (isS_f1 (by decide)) τ ad M1) c7 c8 (by decide) dX11_hearse_78 ?_
      refine r_top (fun x9 e9 => ?_)
      have g9 : iR x9 := by rw [e9]; exact hM.get (isS_f1 (by decide)).pos _
      have hv := hv x9 e9 g9
      refine vx_ret ?_
      refine W.widen (k := 1) (n := 6) (by omega) (by omega) ?_
      exact k_iret (wq_X τ ad) hx hb hr hlk hw hM g9 hv dX11_hearse_79
    · refine r_tblI (tgt := 80) hx hb dX11_hearse_22 hp2 (by omega) (by omega) (by rw [b3]; first | done | rfl) (by decide) ?_
      have hv := hv.2.2.1 b3
      refine lv_aload_n hx hb dX11_hearse_80 rfl (lv_at hl 0 rfl) ?_
      refine lv_iload_n hx hb dX11_hearse_81 rfl (lv_at hl 1 rfl) ?_
      refine k_cVi (wq_X τ ad) hx hb hml hC hLS hA hw hl.1 (mX11_paceNow l D τ ad sA sV _ p1 hp1 M1 hM _ hv) kX11_paceNow ml_X11_237 rfl (gX_155 τ ad M1) rfl rfl (Nat.le_of_ble_eq_true rfl) (rm_ok (by decide) (by decide)) ⟨by show _ ≤ 1; omega, by show _ ≤ 6; omega⟩ dX11_hearse_82 (fun x10 M10 H locs g10 hM hv hw => ?_)
      have hv := hv g10
      refine vx_ret ?_
      refine W.widen (k := 1) (n := 6) (by omega) (by omega) ?_
      exact k_iret (wq_X τ ad) hx hb hr hlk hw hM g10 hv dX11_hearse_85
    · refine r_tblI (tgt := 86) hx hb dX11_hearse_22 hp2 (by omega) (by omega) (by rw [b3]; first | done | rfl) (by decide) ?_
      have hv := hv.2.2.2.1 b3
      refine lv_aload_n hx hb dX11_hearse_86 rfl (lv_at hl 0 rfl) ?_
      refine gf_X11_26 hx hb hC hw 155 (gX_155 τ ad M1) rfl dX11_hearse_87 ?_
      refine lv_aload_n hx hb dX11_hearse_90 rfl (lv_at hl 0 rfl) ?_
      refine gf_X11_26 hx hb hC hw 155 (gX_155 τ ad M1) rfl dX11_hearse_91 ?_
      refine gf_X11_240 hx hb hC hw 1 (gS_X (by decide) τ ad M1) rfl dX11_hearse_94 ?_
      refine lv_iload_n hx hb dX11_hearse_97 rfl (lv_at hl 1 rfl) ?_
      refine k_cVi (wq_X τ ad) hx hb hml hC hLS hA hw hl.1 (mX6_bitsOf l D τ ad sA sV _ 1 6 p1 (by decide) (isS_f4 (by decide)) hp1 M1 hM _ hv) kX6_bitsOf ml_X11_243 rfl (gS_X (by decide) τ ad M1) rfl rfl (Nat.le_of_ble_eq_true rfl) (rm_ok (by decide) (by decide)) ⟨by show _ ≤ 1; omega, by show _ ≤ 6; omega⟩ dX11_hearse_98 (fun x11 M11 H locs g11 hM hv hw => ?_)
      have hv := hv g11
      refine vx_ret ?_
      refine W.widen (k := 1) (n := 6) (by omega) (by omega) ?_
      exact k_iret (wq_X τ ad) hx hb hr hlk hw hM g11 hv dX11_hearse_101
    · refine r_tblI (tgt := 102) hx hb dX11_hearse_22 hp2 (by omega) (by omega) (by rw [b3]; first | done | rfl) (by decide) ?_
      have hv := hv.2.2.2.2.1 b3
      refine lv_aload_n hx hb dX11_hearse_102 rfl (lv_at hl 0 rfl) ?_
      refine gf_X11_26 hx hb hC hw 155 (gX_155 τ ad M1) rfl dX11_hearse_103 ?_
      refine lv_aload_n hx hb dX11_hearse_106 rfl (lv_at hl 0 rfl) ?_
      refine gf_X11_26 hx hb hC hw 155 (gX_155 τ ad M1) rfl dX11_hearse_107 ?_
      refine gf_X11_247 hx hb hC hw 1 (gS_X (by decide) τ ad M1) rfl dX11_hearse_110 ?_
      refine lv_iload_n hx hb dX11_hearse_113 rfl (lv_at hl 1 rfl) ?_
      refine k_cVi (wq_X τ ad) hx hb hml hC hLS hA hw hl.1 (mX6_bitsOf l D τ ad sA sV _ 1 7 p1 (by decide) (isS_f5 (by decide)) hp1 M1 hM _ hv) kX6_bitsOf ml_X11_243 rfl (gS_X (by decide) τ ad M1) rfl rfl (Nat.le_of_ble_eq_true rfl) (rm_ok (by decide) (by decide)) ⟨by show _ ≤ 1; omega, by show _ ≤ 6; omega⟩ dX11_hearse_114 (fun x12 M12 H locs g12 hM hv hw => ?_)
      have hv := hv g12
      refine vx_ret ?_
      refine W.widen (k := 1) (n := 6) (by omega) (by omega) ?_
      exact k_iret (wq_X τ ad) hx hb hr hlk hw hM g12 hv dX11_hearse_117
    · refine r_tblI (tgt := 118) hx hb dX11_hearse_22 hp2 (by omega) (by omega) (by rw [b3]; first | done | rfl) (by decide) ?_
      have hv := hv.2.2.2.2.2.1 b3
      refine lv_aload_n hx hb dX11_hearse_118 rfl (lv_at hl 0 rfl) ?_
      refine gf_X11_26 hx hb hC hw 155 (gX_155 τ ad M1) rfl dX11_hearse_119 ?_
      refine lv_aload_n hx hb dX11_hearse_122 rfl (lv_at hl 0 rfl) ?_
      refine gf_X11_26 hx hb hC hw 155 (gX_155 τ ad M1) rfl dX11_hearse_123 ?_
      refine gf_X11_250 hx hb hC hw 1 (gS_X (by decide) τ ad M1) rfl dX11_hearse_126 ?_
      refine lv_iload_n hx hb dX11_hearse_129 rfl (lv_at hl 1 rfl) ?_
      refine k_cVi (wq_X τ ad) hx hb hml hC hLS hA hw hl.1 (mX6_bitsOf l D τ ad sA sV _ 1 5 p1 (by decide) (isS_f3 (by decide)) hp1 M1 hM _ hv) kX6_bitsOf ml_X11_243 rfl (gS_X (by decide) τ ad M1) rfl rfl (Nat.le_of_ble_eq_true rfl) (rm_ok (by decide) (by decide)) ⟨by show _ ≤ 1; omega, by show _ ≤ 6; omega⟩ dX11_hearse_130 (fun x13 M13 H locs g13 hM hv hw => ?_)
      have hv := hv g13
      refine vx_ret ?_
      refine W.widen (k := 1) (n := 6) (by omega) (by omega) ?_
      exact k_iret (wq_X τ ad) hx hb hr hlk hw hM g13 hv dX11_hearse_133
    · refine r_tblO (tgt := 134) hx hb dX11_hearse_22 hp2 b3 (by decide) ?_
      have hv := hv.2.2.2.2.2.2 b3
      exact x_throwS hx hb hst hml hlk hC hX.1 (hX.2.2.1) htab hw hM hv hl.1 (by decide) (Nat.le_of_ble_eq_true rfl) dX11_hearse_134 dX11_hearse_137 dX11_hearse_138 dX11_hearse_140 dX11_hearse_143
  · have hv := hv.2 b2
    exact x_throwS hx hb hst hml hlk hC hX.1 (hX.2.1) htab hw hM hv hl.1 (by decide) (Nat.le_of_ble_eq_true rfl) dX11_hearse_11 dX11_hearse_14 dX11_hearse_15 dX11_hearse_17 dX11_hearse_20
set_option maxHeartbeats 4000000 in
set_option maxRecDepth 100000 in
theorem mX11_mourner (l : Launch) (hst : l.stackTraces = false) (D : va_G) (τ : Nat → ClassId) (ad : Nat → Nat) (sA sV : Nat → Nat) (sz : Nat) (p1 : Int) (p2 : Int) (hp1 : iR p1) (hp2 : iR p2) (M : Mem) (hM : MR M) (Q : Int → Mem → Prop) (E : Mem → Prop) (hv : qX11_mourner p1 p2 M Q E) : vx_Met l yX11_mourner (lw_w yX11_mourner cX11_mourner 3 (some .int)) (rmk 8 1 6) (xPc D τ sA sV (WX τ ad M) sz [.ref (ad 155), .int (iI p1), .int (iI p2)]) (gQi D (EQi (WX τ ad) MR Q) (va_A (WX τ ad M) sz)) (XCQ D (WX τ ad) E (va_A (WX τ ad M) sz)) 1 6 (va_A (WX τ ad M) sz) := by
  refine x_met (ret := (some .int)) (Qc := gQi D (EQi (WX τ ad) MR Q)) (XC := XCQ D (WX τ ad) E) (by decide +kernel) (Nat.le_of_ble_eq_true rfl) ?_
  intro p e s m args below meth c A ls hx hb hml hr hlk hC hLS hX htab hA hw hl
  have hC : cx D τ s m args RX11 := hC
  have hl : lv_has ls 3 [(0, .ref (ad 155)), (1, .int (iI p1)), (2, .int (iI p2))] := hl
  unfold qX11_mourner at hv
  refine lv_aload_n hx hb dX11_mourner_0 rfl (lv_at hl 0 rfl) ?_
  refine gf_X11_26 hx hb hC hw 155 (gX_155 τ ad M) rfl dX11_mourner_1 ?_
  refine lv_iload_n hx hb dX11_mourner_4 rfl (lv_at hl 1 rfl) ?_
  refine k_cVz (wq_X τ ad) hx hb hml hC hLS hA hw hl.1 (mX6_isMourner l D τ ad sA sV _ 1 p1 (by decide) hp1 M hM _ hv) kX6_isMourner ml_X11_265 rfl (gS_X (by decide) τ ad M) rfl rfl (Nat.le_of_ble_eq_true rfl) (rm_ok (by decide) (by decide)) ⟨by show _ ≤ 1; omega, by show _ ≤ 6; omega⟩ dX11_mourner_5 (fun x1 M1 H locs g1 z1 hM hv hw => ?_)
  have hv := hv g1 z1
  refine r_if_ne (tgt := 22) hx hb dX11_mourner_8 (by decide) g1  (fun b2 => ?_) (fun b2 => ?_)
  · have hv := hv.1 b2
    refine lv_iload_n hx hb dX11_mourner_22 rfl (lv_at hl 2 rfl) ?_
    rcases (show p2 = 0 ∨ p2 = 1 ∨ p2 = 2 ∨ p2 = 3 ∨ p2 = 4 ∨ (p2 < 0 ∨ 4 < p2) by omega) with b3 | b3 | b3 | b3 | b3 | b3
    · refine r_tblI (tgt := 56) hx hb dX11_mourner_23 hp2 (by omega) (by omega) (by rw [b3]; first | done | rfl) (by decide) ?_
      have hv := hv.1 b3
      refine lv_aload_n hx hb dX11_mourner_56 rfl (lv_at hl 0 rfl) ?_
      refine gf_X11_26 hx hb hC hw 155 (gX_155 τ ad M1) rfl dX11_mourner_57 ?_
      refine gf_X11_270 hx hb hC hw 1 (gS_X (by decide) τ ad M1) rfl dX11_mourner_60 ?_
      refine lv_iload_n hx hb dX11_mourner_63 rfl (lv_at hl 1 rfl) ?_
      obtain ⟨c4, hv⟩ := hv
      obtain ⟨c5, hv⟩ := hv
      refine r_iald hx hb hC hw 4 (gI_X (isS_f2 (by decide)) τ ad M1) c4 c5 (by decide) dX11_mourner_64 ?_
      refine r_top (fun x6 e6 => ?_)
      have g6 : iR x6 := by rw [e6]; exact hM.get (isS_f2 (by decide)).pos _
      have hv := hv x6 e6 g6
      refine vx_ret ?_
      refine W.widen (k := 1) (n := 6) (by omega) (by omega) ?_
      exact k_iret (wq_X τ ad) hx hb hr hlk hw hM g6 hv dX11_mourner_65
    · refine r_tblI (tgt := 66) hx hb dX11_mourner_23 hp2 (by omega) (by omega) (by rw [b3]; first | done | rfl) (by decide) ?_
      have hv := hv.2.1 b3
      refine lv_aload_n hx hb dX11_mourner_66 rfl (lv_at hl 0 rfl) ?_
      refine gf_X11_26 hx hb hC hw 155 (gX_155 τ ad M1) rfl dX11_mourner_67 ?_
      refine gf_X11_250 hx hb hC hw 1 (gS_X (by decide) τ ad M1) rfl dX11_mourner_70 ?_
      refine lv_iload_n hx hb dX11_mourner_73 rfl (lv_at hl 1 rfl) ?_
      obtain ⟨c7, hv⟩ := hv
      obtain ⟨c8, hv⟩ := hv
      refine r_iald hx hb hC hw 5 (gI_X (isS_f3 (by decide)) τ ad M1) c7 c8 (by decide) dX11_mourner_74 ?_
      refine r_top (fun x9 e9 => ?_)
      have g9 : iR x9 := by rw [e9]; exact hM.get (isS_f3 (by decide)).pos _
      have hv := hv x9 e9 g9
      refine vx_ret ?_
      refine W.widen (k := 1) (n := 6) (by omega) (by omega) ?_
      exact k_iret (wq_X τ ad) hx hb hr hlk hw hM g9 hv dX11_mourner_75
    · refine r_tblI (tgt := 76) hx hb dX11_mourner_23 hp2 (by omega) (by omega) (by rw [b3]; first | done | rfl) (by decide) ?_
      have hv := hv.2.2.1 b3
      refine lv_aload_n hx hb dX11_mourner_76 rfl (lv_at hl 0 rfl) ?_
      refine gf_X11_26 hx hb hC hw 155 (gX_155 τ ad M1) rfl dX11_mourner_77 ?_
      refine gf_X11_240 hx hb hC hw 1 (gS_X (by decide) τ ad M1) rfl dX11_mourner_80 ?_
      refine lv_iload_n hx hb dX11_mourner_83 rfl (lv_at hl 1 rfl) ?_
      obtain ⟨c10, hv⟩ := hv
      obtain ⟨c11, hv⟩ := hv
      refine r_iald hx hb hC hw 6 (gI_X (isS_f4 (by decide)) τ ad M1) c10 c11 (by decide) dX11_mourner_84 ?_
      refine r_top (fun x12 e12 => ?_)
      have g12 : iR x12 := by rw [e12]; exact hM.get (isS_f4 (by decide)).pos _
      have hv := hv x12 e12 g12
      refine vx_ret ?_
      refine W.widen (k := 1) (n := 6) (by omega) (by omega) ?_
      exact k_iret (wq_X τ ad) hx hb hr hlk hw hM g12 hv dX11_mourner_85
    · refine r_tblI (tgt := 86) hx hb dX11_mourner_23 hp2 (by omega) (by omega) (by rw [b3]; first | done | rfl) (by decide) ?_
      have hv := hv.2.2.2.1 b3
      refine lv_aload_n hx hb dX11_mourner_86 rfl (lv_at hl 0 rfl) ?_
      refine gf_X11_26 hx hb hC hw 155 (gX_155 τ ad M1) rfl dX11_mourner_87 ?_
      refine gf_X11_247 hx hb hC hw 1 (gS_X (by decide) τ ad M1) rfl dX11_mourner_90 ?_
      refine lv_iload_n hx hb dX11_mourner_93 rfl (lv_at hl 1 rfl) ?_
      obtain ⟨c13, hv⟩ := hv
      obtain ⟨c14, hv⟩ := hv
      refine r_iald hx hb hC hw 7 (gI_X (isS_f5 (by decide)) τ ad M1) c13 c14 (by decide) dX11_mourner_94 ?_
      refine r_top (fun x15 e15 => ?_)
      have g15 : iR x15 := by rw [e15]; exact hM.get (isS_f5 (by decide)).pos _
      have hv := hv x15 e15 g15
      refine vx_ret ?_
      refine W.widen (k := 1) (n := 6) (by omega) (by omega) ?_
      exact k_iret (wq_X τ ad) hx hb hr hlk hw hM g15 hv dX11_mourner_95
    · refine r_tblI (tgt := 96) hx hb dX11_mourner_23 hp2 (by omega) (by omega) (by rw [b3]; first | done | rfl) (by decide) ?_
      have hv := hv.2.2.2.2.1 b3
      refine lv_aload_n hx hb dX11_mourner_96 rfl (lv_at hl 0 rfl) ?_
      refine gf_X11_26 hx hb hC hw 155 (gX_155 τ ad M1) rfl dX11_mourner_97 ?_
      refine lv_aload_n hx hb dX11_mourner_100 rfl (lv_at hl 0 rfl) ?_
      refine gf_X11_26 hx hb hC hw 155 (gX_155 τ ad M1) rfl dX11_mourner_101 ?_
      refine gf_X11_270 hx hb hC hw 1 (gS_X (by decide) τ ad M1) rfl dX11_mourner_104 ?_
      refine lv_iload_n hx hb dX11_mourner_107 rfl (lv_at hl 1 rfl) ?_
      obtain ⟨c16, hv⟩ := hv
      obtain ⟨c17, hv⟩ := hv
      refine r_iald hx hb hC hw 4 (gI_X (isS_f2 (by decide)) τ ad M1) c16 c17 (by decide) dX11_mourner_108 ?_
      refine r_top (fun x18 e18 => ?_)
      have g18 : iR x18 := by rw [e18]; exact hM.get (isS_f2 (by decide)).pos _
      have hv := hv x18 e18 g18
      refine k_cVi (wq_X τ ad) hx hb hml hC hLS hA hw hl.1 (mX6_nearestTo l D τ ad sA sV _ 1 x18 (by decide) g18 M1 hM _ hv) kX6_nearestTo ml_X11_273 rfl (gS_X (by decide) τ ad M1) rfl rfl (Nat.le_of_ble_eq_true rfl) (rm_ok (by decide) (by decide)) ⟨by show _ ≤ 1; omega, by show _ ≤ 6; omega⟩ dX11_mourner_109 (fun x19 M19 H locs g19 hM hv hw => ?_)
      have hv := hv g19
      refine vx_ret ?_
      refine W.widen (k := 1) (n := 6) (by omega) (by omega) ?_
      exact k_iret (wq_X τ ad) hx hb hr hlk hw hM g19 hv dX11_mourner_112
    · refine r_tblO (tgt := 113) hx hb dX11_mourner_23 hp2 b3 (by decide) ?_
      have hv := hv.2.2.2.2.2 b3
      exact x_throwSW hx hb hst hml hlk hC hX.1 (hX.2.2.2.2.1) htab hw hM hv hl.1 (by decide) (Nat.le_of_ble_eq_true rfl) dX11_mourner_113 dX11_mourner_116 dX11_mourner_117 dX11_mourner_120 dX11_mourner_123
  · have hv := hv.2 b2
    exact x_throwSW hx hb hst hml hlk hC hX.1 (hX.2.2.2.1) htab hw hM hv hl.1 (by decide) (Nat.le_of_ble_eq_true rfl) dX11_mourner_11 dX11_mourner_14 dX11_mourner_15 dX11_mourner_18 dX11_mourner_21
set_option maxHeartbeats 4000000 in
set_option maxRecDepth 100000 in
theorem mX11_row (l : Launch) (hst : l.stackTraces = false) (D : va_G) (τ : Nat → ClassId) (ad : Nat → Nat) (sA sV : Nat → Nat) (sz : Nat) (p1 : Int) (hp1 : iR p1) (M : Mem) (hM : MR M) (Q : Int → Mem → Prop) (E : Mem → Prop) (hv : qX11_row p1 M Q E) : vx_Met l yX11_row (lw_w yX11_row cX11_row 2 (some .long)) (rmk 8 1 6) (xPc D τ sA sV (WX τ ad M) sz [.ref (ad 155), .int (iI p1)]) (gQl D (EQi (WX τ ad) MR Q) (va_A (WX τ ad M) sz)) (XCQ D (WX τ ad) E (va_A (WX τ ad M) sz)) 1 6 (va_A (WX τ ad M) sz) := by
  refine x_met (ret := (some .long)) (Qc := gQl D (EQi (WX τ ad) MR Q)) (XC := XCQ D (WX τ ad) E) (by decide +kernel) (Nat.le_of_ble_eq_true rfl) ?_
  intro p e s m args below meth c A ls hx hb hml hr hlk hC hLS hX htab hA hw hl
  have hC : cx D τ s m args RX11 := hC
  have hl : lv_has ls 2 [(0, .ref (ad 155)), (1, .int (iI p1))] := hl
  unfold qX11_row at hv
  refine lv_iload_n hx hb dX11_row_0 rfl (lv_at hl 1 rfl) ?_
  refine r_if_lt (tgt := 15) hx hb dX11_row_1 (by decide) hp1  (fun b1 => ?_) (fun b1 => ?_)
  · have hv := hv.1 b1
    exact x_throwSW hx hb hst hml hlk hC hX.1 (hX.2.2.2.2.2) htab hw hM hv hl.1 (by decide) (Nat.le_of_ble_eq_true rfl) dX11_row_15 dX11_row_18 dX11_row_19 dX11_row_22 dX11_row_25
  · have hv := hv.2 b1
    refine lv_iload_n hx hb dX11_row_4 rfl (lv_at hl 1 rfl) ?_
    refine lv_aload_n hx hb dX11_row_5 rfl (lv_at hl 0 rfl) ?_
    refine gf_X11_66 hx hb hC hw 155 (gX_155 τ ad M) rfl dX11_row_6 ?_
    refine gf_X11_359 hx hb hC hw 167 (gX_167 τ ad M) rfl dX11_row_9 ?_
    refine r_top (fun x2 e2 => ?_)
    have g2 : iR x2 := by rw [e2]; exact hM.get (by decide) _
    have hv := hv x2 e2 g2
    refine r_icmp_lt (tgt := 26) hx hb dX11_row_12 (by decide) hp1 g2 (fun b3 => ?_) (fun b3 => ?_)
    · have hv := hv.1 b3
      refine lv_aload_n hx hb dX11_row_26 rfl (lv_at hl 0 rfl) ?_
      refine gf_X11_66 hx hb hC hw 155 (gX_155 τ ad M) rfl dX11_row_27 ?_
      refine gf_X11_494 hx hb hC hw 167 (gX_167 τ ad M) rfl dX11_row_30 ?_
      refine lv_iload_n hx hb dX11_row_33 rfl (lv_at hl 1 rfl) ?_
      obtain ⟨c4, hv⟩ := hv
      obtain ⟨c5, hv⟩ := hv
      refine r_lald hx hb hC hw 0 (gJ_X aX_0 τ ad M) c4 c5 (by decide) dX11_row_34 ?_
      refine r_topL (fun x6 e6 => ?_)
      have g6 : lR x6 := by rw [e6]; exact hM.getL _
      have hv := hv x6 e6 g6
      refine vx_ret ?_
      refine W.widen (k := 1) (n := 6) (by omega) (by omega) ?_
      exact k_lret (wq_X τ ad) hx hb hr hlk hw hM g6 hv dX11_row_35
    · have hv := hv.2 b3
      exact x_throwSW hx hb hst hml hlk hC hX.1 (hX.2.2.2.2.2) htab hw hM hv hl.1 (by decide) (Nat.le_of_ble_eq_true rfl) dX11_row_15 dX11_row_18 dX11_row_19 dX11_row_22 dX11_row_25
