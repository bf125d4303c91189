set_option maxHeartbeats 4000000 in
set_option maxRecDepth 100000 in
theorem mX9_open (l : Launch) (D : va_G) (τ : Nat → ClassId) (ad : Nat → Nat) (sA sV : Nat → Nat) (sz : Nat) (p1 : Int) (hp1 : iR p1) (M : Mem) (hM : MR M) (Q : Mem → Prop) (hv : qX9_open p1 M Q) : Met l yX9_open (lw_w yX9_open cX9_open 2 none) (rmk 1 0 0) (kPc D τ sA sV (WX τ ad M) sz [.ref (ad 156), .int (iI p1)]) (gQv D (EQv (WX τ ad) MR Q) (va_A (WX τ ad M) sz)) 0 0 (va_A (WX τ ad M) sz) := by
  refine k_met (ret := none) (Qc := gQv D (EQv (WX τ ad) MR Q)) (by decide +kernel) (Nat.le_of_ble_eq_true rfl) ?_
  intro p e s m args below meth c A ls hx hb hml hr hlk hnm hC hLS hA hw hl
  have hC : cx D τ s m args RX9 := hC
  have hl : lv_has ls 2 [(0, .ref (ad 156)), (1, .int (iI p1))] := hl
  unfold qX9_open at hv
  refine lv_aload_n hx hb dX9_open_0 rfl (lv_at hl 0 rfl) ?_
  refine r_iconst hx hb dX9_open_1 ?_
  obtain ⟨M1, e1⟩ : ∃ M1 : Mem, M1 = up2 M 156 2 0 := ⟨_, rfl⟩
  have hv := hv M1 e1
  refine pf_X9_19 (ws' := (WX τ ad M1)) hx hb hC hw 156 (gX_156 τ ad M) (Nat.le_of_ble_eq_true rfl) (by rw [e1]; exact sX_156_2 τ ad M _) dX9_open_2 (fun H locs hw => ?_)
  have hM : MR M1 := by rw [e1]; exact hM.put (by decide) (by decide)
  refine lv_aload_n hx hb dX9_open_5 rfl (lv_at hl 0 rfl) ?_
  refine lv_aload_n hx hb dX9_open_6 rfl (lv_at hl 0 rfl) ?_
  refine gf_X9_15 hx hb hC hw 156 (gX_156 τ ad M1) rfl dX9_open_7 ?_
  refine r_top (fun x2 e2 => ?_)
  have g2 : iR x2 := by rw [e2]; exact hM.get (by decide) _
  have hv := hv x2 e2 g2
  refine lv_iload_n hx hb dX9_open_10 rfl (lv_at hl 1 rfl) ?_
  refine r_mminF hx hb hml hC hl.1 ml_X9_25 sm_min in_J9 cd_min (by decide) (Nat.le_of_ble_eq_true rfl) (Nat.zero_le _) (Nat.zero_le _) g2 hp1 dX9_open_11 (fun x3 e3 g3 => ?_)
  have hv := hv x3 e3 g3
  obtain ⟨M4, e4⟩ : ∃ M4 : Mem, M4 = up2 M1 156 3 x3 := ⟨_, rfl⟩
  have hv := hv M4 e4
  refine pf_X9_22 (ws' := (WX τ ad M4)) hx hb hC hw 156 (gX_156 τ ad M1) (Nat.le_of_ble_eq_true rfl) (by rw [e4]; exact sX_156_3 τ ad M1 _) dX9_open_14 (fun H locs hw => ?_)
  have hM : MR M4 := by rw [e4]; exact hM.put (by decide) g3
  exact k_vret (wq_X τ ad) hx hb hr hlk hw hM hv dX9_open_17
set_option maxHeartbeats 4000000 in
set_option maxRecDepth 100000 in
theorem mX9_skip (l : Launch) (D : va_G) (τ : Nat → ClassId) (ad : Nat → Nat) (sA sV : Nat → Nat) (sz : Nat) (p1 : Int) (hp1 : iR p1) (M : Mem) (hM : MR M) (Q : Int → Mem → Prop) (hv : qX9_skip p1 M Q) : Met l yX9_skip (lw_w yX9_skip cX9_skip 2 (some .boolean)) (rmk 2 0 0) (kPc D τ sA sV (WX τ ad M) sz [.ref (ad 156), .int (iI p1)]) (gQi D (EQz (WX τ ad) MR Q) (va_A (WX τ ad M) sz)) 0 0 (va_A (WX τ ad M) sz) := by
  refine k_met (ret := (some .boolean)) (Qc := gQi D (EQz (WX τ ad) MR Q)) (by decide +kernel) (Nat.le_of_ble_eq_true rfl) ?_
  intro p e s m args below meth c A ls hx hb hml hr hlk hnm hC hLS hA hw hl
  have hC : cx D τ s m args RX9 := hC
  have hl : lv_has ls 2 [(0, .ref (ad 156)), (1, .int (iI p1))] := hl
  unfold qX9_skip at hv
  refine lv_aload_n hx hb dX9_skip_0 rfl (lv_at hl 0 rfl) ?_
  refine k_cVi (wq_X τ ad) hx hb hml hC hLS hA hw hl.1 (mX9_look l D τ ad sA sV _   M hM _ hv) kX9_look ml_X9_31 rfl (gX_156 τ ad M) rfl rfl (Nat.le_of_ble_eq_true rfl) (rm_ok (by decide) (by decide)) ⟨Nat.zero_le _, Nat.zero_le _⟩ dX9_skip_1 (fun x1 M1 H locs g1 hM hv hw => ?_)
  have hv := hv g1
  refine lv_iload_n hx hb dX9_skip_4 rfl (lv_at hl 1 rfl) ?_
  refine r_icmp_eq (tgt := 10) hx hb dX9_skip_5 (by decide) g1 hp1 (fun b2 => ?_) (fun b2 => ?_)
  · have hv := hv.1 b2
    refine lv_aload_n hx hb dX9_skip_10 rfl (lv_at hl 0 rfl) ?_
    refine k_cVv (wq_X τ ad) hx hb hml hC hLS hA hw hl.1 (mX9_pass l D τ ad sA sV _   M1 hM _ hv) kX9_pass ml_X9_35 rfl (gX_156 τ ad M1) rfl rfl (Nat.le_of_ble_eq_true rfl) (rm_ok (by decide) (by decide)) ⟨Nat.zero_le _, Nat.zero_le _⟩ dX9_skip_11 (fun M3 H locs hM hv hw => ?_)
    refine r_iconst hx hb dX9_skip_14 ?_
    exact k_zret (wq_X τ ad) hx hb hr hlk hw hM (by decide) (by decide) hv dX9_skip_15
  · have hv := hv.2 b2
    refine r_iconst hx hb dX9_skip_8 ?_
    exact k_zret (wq_X τ ad) hx hb hr hlk hw hM (by decide) (by decide) hv dX9_skip_9
set_option maxHeartbeats 4000000 in
set_option maxRecDepth 100000 in
theorem mX11_readLines (l : Launch) (D : va_G) (τ : Nat → ClassId) (ad : Nat → Nat) (sA sV : Nat → Nat) (sz : Nat) (p1 : Int) (hp1 : iR p1) (M : Mem) (hM : MR M) (Q : Int → Mem → Prop) (hv : qX11_readLines p1 M Q) : Met l yX11_readLines (lw_w yX11_readLines cX11_readLines 4 (some .int)) (rmk 6 0 0) (kPc D τ sA sV (WX τ ad M) sz [.ref (ad 155), .int (iI p1)]) (gQi D (EQi (WX τ ad) MR Q) (va_A (WX τ ad M) sz)) 0 0 (va_A (WX τ ad M) sz) := by
  refine k_met (ret := (some .int)) (Qc := gQi D (EQi (WX τ ad) MR Q)) (by decide +kernel) (Nat.le_of_ble_eq_true rfl) ?_
  intro p e s m args below meth c A ls hx hb hml hr hlk hnm hC hLS hA hw hl
  have hC : cx D τ s m args RX11 := hC
  have hl : lv_has ls 4 [(0, .ref (ad 155)), (1, .int (iI p1))] := hl
  unfold qX11_readLines at hv
  have J74 : ∀ (R : Int → Int → Mem → Prop), (∀ (v2 : Int) (v3 : Int) (M : Mem) (H : Heap) (locs : List Loc) (ls : Array Slot), MR M → R v2 v3 M → wS D A s.heap (WX τ ad M) H locs → lv_has ls 4 [(0, .ref (ad 155)), (1, .int (iI p1)), (2, .int (iI v2)), (3, .int (iI v3))] → W p l e (rmk 6 0 0) s m args below meth c H locs 0 0 (MQ below (gQi D (EQi (WX τ ad) MR Q) A) args s 0 0 A) (F0 m 33 ls [])) → ∀ (X90 : Int → Mem → Prop), (∀ (v2 : Int) (M : Mem) (H : Heap) (locs : List Loc) (ls : Array Slot), MR M → X90 v2 M → wS D A s.heap (WX τ ad M) H locs → lv_has ls 4 [(0, .ref (ad 155)), (2, .int (iI v2))] → W p l e (rmk 6 0 0) s m args below meth c H locs 0 0 (MQ below (gQi D (EQi (WX τ ad) MR Q) A) args s 0 0 A) (F0 m 90 ls [])) → ∀ (v2 : Int) (M : Mem) (H : Heap) (locs : List Loc) (ls : Array Slot), MR M → qX11_readLines_J74 p1 R X90 Q v2 M → wS D A s.heap (WX τ ad M) H locs → lv_has ls 4 [(0, .ref (ad 155)), (1, .int (iI p1)), (2, .int (iI v2))] → W p l e (rmk 6 0 0) s m args below meth c H locs 0 0 (MQ below (gQi D (EQi (WX τ ad) MR Q) A) args s 0 0 A) (F0 m 74 ls []) := by
    intro R hR X90 hX90 v2 M H locs ls hM hv hw hl
    unfold qX11_readLines_J74 at hv
    refine r_iinc (v := (v2 + 1)) (lv' := [(2, .int (iI (v2 + 1))), (0, .ref (ad 155)), (1, .int (iI p1))]) hx hb dX11_readLines_74 hl (k := 2) rfl rfl (by decide) rfl (fun ls hl => ?_)
    refine lv_aload_n hx hb dX11_readLines_77 rfl (lv_at hl 1 rfl) ?_
    refine gf_X11_10 hx hb hC hw 155 (gX_155 τ ad M) rfl dX11_readLines_78 ?_
    refine r_bipush hx hb dX11_readLines_81 (by decide +kernel) ?_
    refine k_cVz (wq_X τ ad) hx hb hml hC hLS hA hw hl.1 (mX9_skip l D τ ad sA sV _ 59 (by decide) M hM _ hv) kX9_skip ml_X11_170 rfl (gX_156 τ ad M) rfl rfl (Nat.le_of_ble_eq_true rfl) (rm_ok (by decide) (by decide)) ⟨Nat.zero_le _, Nat.zero_le _⟩ dX11_readLines_83 (fun x12 M12 H locs g12 z12 hM hv hw => ?_)
    have hv := hv g12 z12
    refine lv_istore_n (lv' := [(3, .int (iI x12)), (2, .int (iI (v2 + 1))), (0, .ref (ad 155)), (1, .int (iI p1))]) hx hb dX11_readLines_86 rfl hl (by decide) rfl (fun ls hl => ?_)
    refine lv_goto (tgt := 33) hx hb dX11_readLines_87 (by decide) ?_
    exact hR (v2 + 1) x12 M12 _ _ _ hM hv hw (lv_sub hl [2, 3, 1, 0] rfl)
  have L33 : ∀ (X90 : Int → Mem → Prop), (∀ (v2 : Int) (M : Mem) (H : Heap) (locs : List Loc) (ls : Array Slot), MR M → X90 v2 M → wS D A s.heap (WX τ ad M) H locs → lv_has ls 4 [(0, .ref (ad 155)), (2, .int (iI v2))] → W p l e (rmk 6 0 0) s m args below meth c H locs 0 0 (MQ below (gQi D (EQi (WX τ ad) MR Q) A) args s 0 0 A) (F0 m 90 ls [])) → ∀ (n : Nat) (v2 : Int) (v3 : Int) (M : Mem) (H : Heap) (locs : List Loc) (ls : Array Slot), MR M → qX11_readLines_L33 p1 X90 Q n v2 v3 M → wS D A s.heap (WX τ ad M) H locs → lv_has ls 4 [(0, .ref (ad 155)), (1, .int (iI p1)), (2, .int (iI v2)), (3, .int (iI v3))] → W p l e (rmk 6 0 0) s m args below meth c H locs 0 0 (MQ below (gQi D (EQi (WX τ ad) MR Q) A) args s 0 0 A) (F0 m 33 ls []) := by
    intro X90 hX90 n
    induction n with
    | zero => intro v2 v3 M H locs ls hM hv; rw [qX11_readLines_L33] at hv; exact hv.elim
    | succ n ih =>
      intro v2 v3 M H locs ls hM hv hw hl
      rw [qX11_readLines_L33] at hv
      refine lv_iload_n hx hb dX11_readLines_33 rfl (lv_at hl 3 rfl) ?_
      obtain ⟨c5, hv⟩ := hv
      refine r_if_eq (tgt := 90) hx hb dX11_readLines_34 (by decide) c5  (fun b6 => ?_) (fun b6 => ?_)
      · have hv := hv.1 b6
        exact hX90 v2 M _ _ _ hM hv hw (lv_sub hl [0, 2] rfl)
      · have hv := hv.2 b6
        refine lv_iload_n hx hb dX11_readLines_37 rfl (lv_at hl 2 rfl) ?_
        refine r_bipush hx hb dX11_readLines_38 (by decide +kernel) ?_
        obtain ⟨c7, hv⟩ := hv
        refine r_icmp_gt (tgt := 90) hx hb dX11_readLines_40 (by decide) c7 (by decide) (fun b8 => ?_) (fun b8 => ?_)
        · have hv := hv.1 b8
          exact hX90 v2 M _ _ _ hM hv hw (lv_sub hl [0, 2] rfl)
        · have hv := hv.2 b8
          refine lv_iload_n hx hb dX11_readLines_43 rfl (lv_at hl 1 rfl) ?_
          refine r_if_eq (tgt := 57) hx hb dX11_readLines_44 (by decide) hp1  (fun b9 => ?_) (fun b9 => ?_)
          · have hv := hv.1 b9
            refine lv_aload_n hx hb dX11_readLines_57 rfl (lv_at hl 0 rfl) ?_
            refine k_cVz (wq_X τ ad) hx hb hml hC hLS hA hw hl.1 (mX11_readMourner l D τ ad sA sV _   M hM _ hv) kX11_readMourner ml_X11_164 rfl (gX_155 τ ad M) rfl rfl (Nat.le_of_ble_eq_true rfl) (rm_ok (by decide) (by decide)) ⟨Nat.zero_le _, Nat.zero_le _⟩ dX11_readLines_58 (fun x10 M10 H locs g10 z10 hM hv hw => ?_)
            have hv := hv g10 z10
            refine r_if_ne (tgt := 74) hx hb dX11_readLines_61 (by decide) g10  (fun b11 => ?_) (fun b11 => ?_)
            · have hv := hv.1 b11
              exact J74 _ ih _ hX90 v2 M10 _ _ _ hM hv hw (lv_sub hl [0, 1, 2] rfl)
            · have hv := hv.2 b11
              refine r_iconst hx hb dX11_readLines_64 ?_
              refine lv_aload_n hx hb dX11_readLines_65 rfl (lv_at hl 0 rfl) ?_
              refine gf_X11_10 hx hb hC hw 155 (gX_155 τ ad M10) rfl dX11_readLines_66 ?_
              refine gf_X11_167 hx hb hC hw 156 (gX_156 τ ad M10) rfl dX11_readLines_69 ?_
              refine r_top (fun x13 e13 => ?_)
              have g13 : iR x13 := by rw [e13]; exact hM.get (by decide) _
              have hv := hv x13 e13 g13
              refine r_isub (z := ((-1) - x13)) hx hb dX11_readLines_72 rfl ?_
              obtain ⟨c14, hv⟩ := hv
              exact k_iret (wq_X τ ad) hx hb hr hlk hw hM c14 hv dX11_readLines_73
          · have hv := hv.2 b9
            refine lv_aload_n hx hb dX11_readLines_47 rfl (lv_at hl 0 rfl) ?_
            refine k_cVz (wq_X τ ad) hx hb hml hC hLS hA hw hl.1 (mX11_readHearse l D τ ad sA sV _   M hM _ hv) kX11_readHearse ml_X11_161 rfl (gX_155 τ ad M) rfl rfl (Nat.le_of_ble_eq_true rfl) (rm_ok (by decide) (by decide)) ⟨Nat.zero_le _, Nat.zero_le _⟩ dX11_readLines_48 (fun x15 M15 H locs g15 z15 hM hv hw => ?_)
            have hv := hv g15 z15
            refine r_if_eq (tgt := 64) hx hb dX11_readLines_51 (by decide) g15  (fun b16 => ?_) (fun b16 => ?_)
            · have hv := hv.1 b16
              refine r_iconst hx hb dX11_readLines_64 ?_
              refine lv_aload_n hx hb dX11_readLines_65 rfl (lv_at hl 0 rfl) ?_
              refine gf_X11_10 hx hb hC hw 155 (gX_155 τ ad M15) rfl dX11_readLines_66 ?_
              refine gf_X11_167 hx hb hC hw 156 (gX_156 τ ad M15) rfl dX11_readLines_69 ?_
              refine r_top (fun x17 e17 => ?_)
              have g17 : iR x17 := by rw [e17]; exact hM.get (by decide) _
              have hv := hv x17 e17 g17
              refine r_isub (z := ((-1) - x17)) hx hb dX11_readLines_72 rfl ?_
              obtain ⟨c18, hv⟩ := hv
              exact k_iret (wq_X τ ad) hx hb hr hlk hw hM c18 hv dX11_readLines_73
            · have hv := hv.2 b16
              refine lv_goto (tgt := 74) hx hb dX11_readLines_54 (by decide) ?_
              exact J74 _ ih _ hX90 v2 M15 _ _ _ hM hv hw (lv_sub hl [0, 1, 2] rfl)
  have J90 : ∀ (v2 : Int) (M : Mem) (H : Heap) (locs : List Loc) (ls : Array Slot), MR M → qX11_readLines_J90 p1 Q v2 M → wS D A s.heap (WX τ ad M) H locs → lv_has ls 4 [(0, .ref (ad 155)), (2, .int (iI v2))] → W p l e (rmk 6 0 0) s m args below meth c H locs 0 0 (MQ below (gQi D (EQi (WX τ ad) MR Q) A) args s 0 0 A) (F0 m 90 ls []) := by
    intro v2 M H locs ls hM hv hw hl
    unfold qX11_readLines_J90 at hv
    refine lv_aload_n hx hb dX11_readLines_90 rfl (lv_at hl 0 rfl) ?_
    refine gf_X11_10 hx hb hC hw 155 (gX_155 τ ad M) rfl dX11_readLines_91 ?_
    refine k_cVz (wq_X τ ad) hx hb hml hC hLS hA hw hl.1 (mX9_isWhole l D τ ad sA sV _   M hM _ hv) kX9_isWhole ml_X11_173 rfl (gX_156 τ ad M) rfl rfl (Nat.le_of_ble_eq_true rfl) (rm_ok (by decide) (by decide)) ⟨Nat.zero_le _, Nat.zero_le _⟩ dX11_readLines_94 (fun x20 M20 H locs g20 z20 hM hv hw => ?_)
    have hv := hv g20 z20
    refine r_if_ne (tgt := 110) hx hb dX11_readLines_97 (by decide) g20  (fun b21 => ?_) (fun b21 => ?_)
    · have hv := hv.1 b21
      refine lv_aload_n hx hb dX11_readLines_110 rfl (lv_at hl 0 rfl) ?_
      refine gf_X11_26 hx hb hC hw 155 (gX_155 τ ad M20) rfl dX11_readLines_111 ?_
      refine lv_aload_n hx hb dX11_readLines_114 rfl (lv_at hl 0 rfl) ?_
      refine gf_X11_30 hx hb hC hw 155 (gX_155 τ ad M20) rfl dX11_readLines_115 ?_
      refine k_cVv (wq_X τ ad) hx hb hml hC hLS hA hw hl.1 (mX6_copyFrom l D τ ad sA sV _ 1 8 (by decide) (by decide) M20 hM _ hv) kX6_copyFrom ml_X11_153 rfl (gS_X (by decide) τ ad M20) rfl rfl (Nat.le_of_ble_eq_true rfl) (rm_ok (by decide) (by decide)) ⟨Nat.zero_le _, Nat.zero_le _⟩ dX11_readLines_118 (fun M22 H locs hM hv hw => ?_)
      refine lv_aload_n hx hb dX11_readLines_121 rfl (lv_at hl 0 rfl) ?_
      refine gf_X11_51 hx hb hC hw 155 (gX_155 τ ad M22) rfl dX11_readLines_122 ?_
      refine k_cVv (wq_X τ ad) hx hb hml hC hLS hA hw hl.1 (mX1_clear l D τ ad sA sV _   M22 hM _ hv) kX1_clear ml_X11_136 rfl (gX_163 τ ad M22) rfl rfl (Nat.le_of_ble_eq_true rfl) (rm_ok (by decide) (by decide)) ⟨Nat.zero_le _, Nat.zero_le _⟩ dX11_readLines_125 (fun M23 H locs hM hv hw => ?_)
      refine lv_iload_n hx hb dX11_readLines_128 rfl (lv_at hl 1 rfl) ?_
      obtain ⟨c24, hv⟩ := hv
      exact k_iret (wq_X τ ad) hx hb hr hlk hw hM c24 hv dX11_readLines_129
    · have hv := hv.2 b21
      refine r_iconst hx hb dX11_readLines_100 ?_
      refine lv_aload_n hx hb dX11_readLines_101 rfl (lv_at hl 0 rfl) ?_
      refine gf_X11_10 hx hb hC hw 155 (gX_155 τ ad M20) rfl dX11_readLines_102 ?_
      refine gf_X11_167 hx hb hC hw 156 (gX_156 τ ad M20) rfl dX11_readLines_105 ?_
      refine r_top (fun x25 e25 => ?_)
      have g25 : iR x25 := by rw [e25]; exact hM.get (by decide) _
      have hv := hv x25 e25 g25
      refine r_isub (z := ((-1) - x25)) hx hb dX11_readLines_108 rfl ?_
      obtain ⟨c26, hv⟩ := hv
      exact k_iret (wq_X τ ad) hx hb hr hlk hw hM c26 hv dX11_readLines_109
  have J26 : ∀ (t0 : Int) (M : Mem) (H : Heap) (locs : List Loc) (ls : Array Slot), MR M → qX11_readLines_J26 p1 Q t0 M → wS D A s.heap (WX τ ad M) H locs → lv_has ls 4 [(0, .ref (ad 155)), (1, .int (iI p1))] → W p l e (rmk 6 0 0) s m args below meth c H locs 0 0 (MQ below (gQi D (EQi (WX τ ad) MR Q) A) args s 0 0 A) (F0 m 26 ls [.int (iI t0), .ref (ad 156)]) := by
    intro t0 M H locs ls hM hv hw hl
    unfold qX11_readLines_J26 at hv
    obtain ⟨c3, hv⟩ := hv
    refine k_cVv (wq_X τ ad) hx hb hml hC hLS hA hw hl.1 (mX9_open l D τ ad sA sV _ t0 c3 M hM _ hv) kX9_open ml_X11_157 rfl (gX_156 τ ad M) rfl rfl (Nat.le_of_ble_eq_true rfl) (rm_ok (by decide) (by decide)) ⟨Nat.zero_le _, Nat.zero_le _⟩ dX11_readLines_26 (fun M4 H locs hM hv hw => ?_)
    refine r_iconst hx hb dX11_readLines_29 ?_
    refine lv_istore_n (lv' := [(2, .int (iI 0)), (0, .ref (ad 155)), (1, .int (iI p1))]) hx hb dX11_readLines_30 rfl hl (by decide) rfl (fun ls hl => ?_)
    refine r_iconst hx hb dX11_readLines_31 ?_
    refine lv_istore_n (lv' := [(3, .int (iI 1)), (2, .int (iI 0)), (0, .ref (ad 155)), (1, .int (iI p1))]) hx hb dX11_readLines_32 rfl hl (by decide) rfl (fun ls hl => ?_)
    obtain ⟨n19, hv⟩ := hv
    refine L33 _ ?_ n19 0 1 M4 _ _ _ hM hv hw (lv_sub hl [2, 3, 1, 0] rfl)
    · intro v2 M H locs ls hM hv hw hl
      exact J90 v2 M _ _ _ hM hv hw (lv_sub hl [0, 1] rfl)
  refine lv_aload_n hx hb dX11_readLines_0 rfl (lv_at hl 0 rfl) ?_
  refine gf_X11_30 hx hb hC hw 155 (gX_155 τ ad M) rfl dX11_readLines_1 ?_
  refine lv_aload_n hx hb dX11_readLines_4 rfl (lv_at hl 0 rfl) ?_
  refine gf_X11_26 hx hb hC hw 155 (gX_155 τ ad M) rfl dX11_readLines_5 ?_
  refine k_cVv (wq_X τ ad) hx hb hml hC hLS hA hw hl.1 (mX6_copyFrom l D τ ad sA sV _ 8 1 (by decide) (by decide) M hM _ hv) kX6_copyFrom ml_X11_153 rfl (gS_X (by decide) τ ad M) rfl rfl (Nat.le_of_ble_eq_true rfl) (rm_ok (by decide) (by decide)) ⟨Nat.zero_le _, Nat.zero_le _⟩ dX11_readLines_8 (fun M1 H locs hM hv hw => ?_)
  refine lv_aload_n hx hb dX11_readLines_11 rfl (lv_at hl 0 rfl) ?_
  refine gf_X11_10 hx hb hC hw 155 (gX_155 τ ad M1) rfl dX11_readLines_12 ?_
  refine lv_iload_n hx hb dX11_readLines_15 rfl (lv_at hl 1 rfl) ?_
  refine r_if_eq (tgt := 24) hx hb dX11_readLines_16 (by decide) hp1  (fun b2 => ?_) (fun b2 => ?_)
  · have hv := hv.1 b2
    refine r_bipush hx hb dX11_readLines_24 (by decide +kernel) ?_
    exact J26 39 M1 _ _ _ hM hv hw (lv_sub hl [0, 1] rfl)
  · have hv := hv.2 b2
    refine r_bipush hx hb dX11_readLines_19 (by decide +kernel) ?_
    refine lv_goto (tgt := 26) hx hb dX11_readLines_21 (by decide) ?_
    exact J26 17 M1 _ _ _ hM hv hw (lv_sub hl [0, 1] rfl)
set_option maxHeartbeats 4000000 in
set_option maxRecDepth 100000 in
theorem mX9_isEmpty (l : Launch) (D : va_G) (τ : Nat → ClassId) (ad : Nat → Nat) (sA sV : Nat → Nat) (sz : Nat)   (M : Mem) (hM : MR M) (Q : Int → Mem → Prop) (hv : qX9_isEmpty  M Q) : Met l yX9_isEmpty (lw_w yX9_isEmpty cX9_isEmpty 1 (some .boolean)) (rmk 1 0 0) (kPc D τ sA sV (WX τ ad M) sz [.ref (ad 156)]) (gQi D (EQz (WX τ ad) MR Q) (va_A (WX τ ad M) sz)) 0 0 (va_A (WX τ ad M) sz) := by
  refine k_met (ret := (some .boolean)) (Qc := gQi D (EQz (WX τ ad) MR Q)) (by decide +kernel) (Nat.le_of_ble_eq_true rfl) ?_
  intro p e s m args below meth c A ls hx hb hml hr hlk hnm hC hLS hA hw hl
  have hC : cx D τ s m args RX9 := hC
  have hl : lv_has ls 1 [(0, .ref (ad 156))] := hl
  unfold qX9_isEmpty at hv
  refine lv_aload_n hx hb dX9_isEmpty_0 rfl (lv_at hl 0 rfl) ?_
  refine gf_X9_15 hx hb hC hw 156 (gX_156 τ ad M) rfl dX9_isEmpty_1 ?_
  refine r_top (fun x1 e1 => ?_)
  have g1 : iR x1 := by rw [e1]; exact hM.get (by decide) _
  have hv := hv x1 e1 g1
  refine r_if_ne (tgt := 11) hx hb dX9_isEmpty_4 (by decide) g1  (fun b2 => ?_) (fun b2 => ?_)
  · have hv := hv.1 b2
    refine r_iconst hx hb dX9_isEmpty_11 ?_
    exact k_zret (wq_X τ ad) hx hb hr hlk hw hM (by decide) (by decide) hv dX9_isEmpty_12
  · have hv := hv.2 b2
    refine r_iconst hx hb dX9_isEmpty_7 ?_
    refine lv_goto (tgt := 12) hx hb dX9_isEmpty_8 (by decide) ?_
    exact k_zret (wq_X τ ad) hx hb hr hlk hw hM (by decide) (by decide) hv dX9_isEmpty_12
set_option maxHeartbeats 4000000 in
set_option maxRecDepth 100000 in
theorem mX11_hearses (l : Launch) (D : va_G) (τ : Nat → ClassId) (ad : Nat → Nat) (sA sV : Nat → Nat) (sz : Nat)   (M : Mem) (hM : MR M) (Q : Int → Mem → Prop) (hv : qX11_hearses  M Q) : Met l yX11_hearses (lw_w yX11_hearses cX11_hearses 2 (some .int)) (rmk 7 0 0) (kPc D τ sA sV (WX τ ad M) sz [.ref (ad 155)]) (gQi D (EQi (WX τ ad) MR Q) (va_A (WX τ ad M) sz)) 0 0 (va_A (WX τ ad M) sz) := by
  refine k_met (ret := (some .int)) (Qc := gQi D (EQi (WX τ ad) MR Q)) (by decide +kernel) (Nat.le_of_ble_eq_true rfl) ?_
  intro p e s m args below meth c A ls hx hb hml hr hlk hnm hC hLS hA hw hl
  have hC : cx D τ s m args RX11 := hC
  have hl : lv_has ls 2 [(0, .ref (ad 155))] := hl
  unfold qX11_hearses at hv
  have J19 : ∀ (t0 : Int) (M : Mem) (H : Heap) (locs : List Loc) (ls : Array Slot), MR M → qX11_hearses_J19  Q t0 M → wS D A s.heap (WX τ ad M) H locs → lv_has ls 2 [(0, .ref (ad 155))] → W p l e (rmk 7 0 0) s m args below meth c H locs 0 0 (MQ below (gQi D (EQi (WX τ ad) MR Q) A) args s 0 0 A) (F0 m 19 ls [.int (iI t0)]) := by
    intro t0 M H locs ls hM hv hw hl
    unfold qX11_hearses_J19 at hv
    refine lv_istore_n (lv' := [(1, .int (iI t0)), (0, .ref (ad 155))]) hx hb dX11_hearses_19 rfl hl (by decide) rfl (fun ls hl => ?_)
    refine lv_aload_n hx hb dX11_hearses_20 rfl (lv_at hl 1 rfl) ?_
    refine gf_X11_10 hx hb hC hw 155 (gX_155 τ ad M) rfl dX11_hearses_21 ?_
    refine k_cVv (wq_X τ ad) hx hb hml hC hLS hA hw hl.1 (mX9_clear l D τ ad sA sV _   M hM _ hv) kX9_clear ml_X11_140 rfl (gX_156 τ ad M) rfl rfl (Nat.le_of_ble_eq_true rfl) (rm_ok (by decide) (by decide)) ⟨Nat.zero_le _, Nat.zero_le _⟩ dX11_hearses_24 (fun M4 H locs hM hv hw => ?_)
    refine lv_iload_n hx hb dX11_hearses_27 rfl (lv_at hl 0 rfl) ?_
    obtain ⟨c5, hv⟩ := hv
    exact k_iret (wq_X τ ad) hx hb hr hlk hw hM c5 hv dX11_hearses_28
  refine lv_aload_n hx hb dX11_hearses_0 rfl (lv_at hl 0 rfl) ?_
  refine gf_X11_10 hx hb hC hw 155 (gX_155 τ ad M) rfl dX11_hearses_1 ?_
  refine k_cVz (wq_X τ ad) hx hb hml hC hLS hA hw hl.1 (mX9_isEmpty l D τ ad sA sV _   M hM _ hv) kX9_isEmpty ml_X11_145 rfl (gX_156 τ ad M) rfl rfl (Nat.le_of_ble_eq_true rfl) (rm_ok (by decide) (by decide)) ⟨Nat.zero_le _, Nat.zero_le _⟩ dX11_hearses_4 (fun x1 M1 H locs g1 z1 hM hv hw => ?_)
  have hv := hv g1 z1
  refine r_if_eq (tgt := 14) hx hb dX11_hearses_7 (by decide) g1  (fun b2 => ?_) (fun b2 => ?_)
  · have hv := hv.1 b2
    refine lv_aload_n hx hb dX11_hearses_14 rfl (lv_at hl 0 rfl) ?_
    refine r_iconst hx hb dX11_hearses_15 ?_
    refine k_cVi (wq_X τ ad) hx hb hml hC hLS hA hw hl.1 (mX11_readLines l D τ ad sA sV _ 1 (by decide) M1 hM _ hv) kX11_readLines ml_X11_149 rfl (gX_155 τ ad M1) rfl rfl (Nat.le_of_ble_eq_true rfl) (rm_ok (by decide) (by decide)) ⟨Nat.zero_le _, Nat.zero_le _⟩ dX11_hearses_16 (fun x3 M3 H locs g3 hM hv hw => ?_)
    have hv := hv g3
    exact J19 x3 M3 _ _ _ hM hv hw (lv_sub hl [0] rfl)
  · have hv := hv.2 b2
    refine r_iconst hx hb dX11_hearses_10 ?_
    refine lv_goto (tgt := 19) hx hb dX11_hearses_11 (by decide) ?_
    exact J19 0 M1 _ _ _ hM hv hw (lv_sub hl [0] rfl)
set_option maxHeartbeats 4000000 in
set_option maxRecDepth 100000 in
theorem mX11_mourners (l : Launch) (D : va_G) (τ : Nat → ClassId) (ad : Nat → Nat) (sA sV : Nat → Nat) (sz : Nat)   (M : Mem) (hM : MR M) (Q : Int → Mem → Prop) (hv : qX11_mourners  M Q) : Met l yX11_mourners (lw_w yX11_mourners cX11_mourners 2 (some .int)) (rmk 7 0 0) (kPc D τ sA sV (WX τ ad M) sz [.ref (ad 155)]) (gQi D (EQi (WX τ ad) MR Q) (va_A (WX τ ad M) sz)) 0 0 (va_A (WX τ ad M) sz) := by
  refine k_met (ret := (some .int)) (Qc := gQi D (EQi (WX τ ad) MR Q)) (by decide +kernel) (Nat.le_of_ble_eq_true rfl) ?_
  intro p e s m args below meth c A ls hx hb hml hr hlk hnm hC hLS hA hw hl
  have hC : cx D τ s m args RX11 := hC
  have hl : lv_has ls 2 [(0, .ref (ad 155))] := hl
  unfold qX11_mourners at hv
  have J19 : ∀ (t0 : Int) (M : Mem) (H : Heap) (locs : List Loc) (ls : Array Slot), MR M → qX11_mourners_J19  Q t0 M → wS D A s.heap (WX τ ad M) H locs → lv_has ls 2 [(0, .ref (ad 155))] → W p l e (rmk 7 0 0) s m args below meth c H locs 0 0 (MQ below (gQi D (EQi (WX τ ad) MR Q) A) args s 0 0 A) (F0 m 19 ls [.int (iI t0)]) := by
    intro t0 M H locs ls hM hv hw hl
    unfold qX11_mourners_J19 at hv
    refine lv_istore_n (lv' := [(1, .int (iI t0)), (0, .ref (ad 155))]) hx hb dX11_mourners_19 rfl hl (by decide) rfl (fun ls hl => ?_)
    refine lv_aload_n hx hb dX11_mourners_20 rfl (lv_at hl 1 rfl) ?_
    refine gf_X11_10 hx hb hC hw 155 (gX_155 τ ad M) rfl dX11_mourners_21 ?_
    refine k_cVv (wq_X τ ad) hx hb hml hC hLS hA hw hl.1 (mX9_clear l D τ ad sA sV _   M hM _ hv) kX9_clear ml_X11_140 rfl (gX_156 τ ad M) rfl rfl (Nat.le_of_ble_eq_true rfl) (rm_ok (by decide) (by decide)) ⟨Nat.zero_le _, Nat.zero_le _⟩ dX11_mourners_24 (fun M4 H locs hM hv hw => ?_)
    refine lv_iload_n hx hb dX11_mourners_27 rfl (lv_at hl 0 rfl) ?_
    obtain ⟨c5, hv⟩ := hv
    exact k_iret (wq_X τ ad) hx hb hr hlk hw hM c5 hv dX11_mourners_28
  refine lv_aload_n hx hb dX11_mourners_0 rfl (lv_at hl 0 rfl) ?_
  refine gf_X11_10 hx hb hC hw 155 (gX_155 τ ad M) rfl dX11_mourners_1 ?_
  refine k_cVz (wq_X τ ad) hx hb hml hC hLS hA hw hl.1 (mX9_isEmpty l D τ ad sA sV _   M hM _ hv) kX9_isEmpty ml_X11_145 rfl (gX_156 τ ad M) rfl rfl (Nat.le_of_ble_eq_true rfl) (rm_ok (by decide) (by decide)) ⟨Nat.zero_le _, Nat.zero_le _⟩ dX11_mourners_4 (fun x1 M1 H locs g1 z1 hM hv hw => ?_)
  have hv := hv g1 z1
  refine r_if_eq (tgt := 14) hx hb dX11_mourners_7 (by decide) g1  (fun b2 => ?_) (fun b2 => ?_)
  · have hv := hv.1 b2
    refine lv_aload_n hx hb dX11_mourners_14 rfl (lv_at hl 0 rfl) ?_
    refine r_iconst hx hb dX11_mourners_15 ?_
    refine k_cVi (wq_X τ ad) hx hb hml hC hLS hA hw hl.1 (mX11_readLines l D τ ad sA sV _ 0 (by decide) M1 hM _ hv) kX11_readLines ml_X11_149 rfl (gX_155 τ ad M1) rfl rfl (Nat.le_of_ble_eq_true rfl) (rm_ok (by decide) (by decide)) ⟨Nat.zero_le _, Nat.zero_le _⟩ dX11_mourners_16 (fun x3 M3 H locs g3 hM hv hw => ?_)
    have hv := hv g3
    exact J19 x3 M3 _ _ _ hM hv hw (lv_sub hl [0] rfl)
  · have hv := hv.2 b2
    refine r_iconst hx hb dX11_mourners_10 ?_
    refine lv_goto (tgt := 19) hx hb dX11_mourners_11 (by decide) ?_
    exact J19 0 M1 _ _ _ hM hv hw (lv_sub hl [0] rfl)
set_option maxHeartbeats 4000000 in
set_option maxRecDepth 100000 in
theorem mX11_weatherFault (l : Launch) (D : va_G) (τ : Nat → ClassId) (ad : Nat → Nat) (sA sV : Nat → Nat) (sz : Nat)   (M : Mem) (hM : MR M) (Q : Int → Mem → Prop) (hv : qX11_weatherFault  M Q) : Met l yX11_weatherFault (lw_w yX11_weatherFault cX11_weatherFault 3 (some .int)) (rmk 2 0 0) (kPc D τ sA sV (WX τ ad M) sz [.ref (ad 155)]) (gQi D (EQi (WX τ ad) MR Q) (va_A (WX τ ad M) sz)) 0 0 (va_A (WX τ ad M) sz) := by
  refine k_met (ret := (some .int)) (Qc := gQi D (EQi (WX τ ad) MR Q)) (by decide +kernel) (Nat.le_of_ble_eq_true rfl) ?_
  intro p e s m args below meth c A ls hx hb hml hr hlk hnm hC hLS hA hw hl
  have hC : cx D τ s m args RX11 := hC
  have hl : lv_has ls 3 [(0, .ref (ad 155))] := hl
  unfold qX11_weatherFault at hv
  have L2 : ∀ (X48 : Mem → Prop), (∀  (M : Mem) (H : Heap) (locs : List Loc) (ls : Array Slot), MR M → X48  M → wS D A s.heap (WX τ ad M) H locs → lv_has ls 3 [(0, .ref (ad 155))] → W p l e (rmk 2 0 0) s m args below meth c H locs 0 0 (MQ below (gQi D (EQi (WX τ ad) MR Q) A) args s 0 0 A) (F0 m 48 ls [])) → ∀ (n : Nat) (v1 : Int) (M : Mem) (H : Heap) (locs : List Loc) (ls : Array Slot), MR M → qX11_weatherFault_L2  X48 Q n v1 M → wS D A s.heap (WX τ ad M) H locs → lv_has ls 3 [(0, .ref (ad 155)), (1, .int (iI v1))] → W p l e (rmk 2 0 0) s m args below meth c H locs 0 0 (MQ below (gQi D (EQi (WX τ ad) MR Q) A) args s 0 0 A) (F0 m 2 ls []) := by
    intro X48 hX48 n
    induction n with
    | zero => intro v1 M H locs ls hM hv; rw [qX11_weatherFault_L2] at hv; exact hv.elim
    | succ n ih =>
      intro v1 M H locs ls hM hv hw hl
      rw [qX11_weatherFault_L2] at hv
      refine lv_iload_n hx hb dX11_weatherFault_2 rfl (lv_at hl 1 rfl) ?_
      refine lv_aload_n hx hb dX11_weatherFault_3 rfl (lv_at hl 0 rfl) ?_
      refine gf_X11_10 hx hb hC hw 155 (gX_155 τ ad M) rfl dX11_weatherFault_4 ?_
      refine gf_X11_119 hx hb hC hw 156 (gX_156 τ ad M) rfl dX11_weatherFault_7 ?_
      refine r_top (fun x1 e1 => ?_)
      have g1 : iR x1 := by rw [e1]; exact hM.get (by decide) _
      have hv := hv x1 e1 g1
      obtain ⟨c2, hv⟩ := hv
      refine r_icmp_ge (tgt := 48) hx hb dX11_weatherFault_10 (by decide) c2 g1 (fun b3 => ?_) (fun b3 => ?_)
      · have hv := hv.1 b3
        exact hX48  M _ _ _ hM hv hw (lv_sub hl [0] rfl)
      · have hv := hv.2 b3
        refine lv_aload_n hx hb dX11_weatherFault_13 rfl (lv_at hl 0 rfl) ?_
        refine gf_X11_10 hx hb hC hw 155 (gX_155 τ ad M) rfl dX11_weatherFault_14 ?_
        refine lv_iload_n hx hb dX11_weatherFault_17 rfl (lv_at hl 1 rfl) ?_
        refine k_cVi (wq_X τ ad) hx hb hml hC hLS hA hw hl.1 (mX9_signAt l D τ ad sA sV _ v1 c2 M hM _ hv) kX9_signAt ml_X11_141 rfl (gX_156 τ ad M) rfl rfl (Nat.le_of_ble_eq_true rfl) (rm_ok (by decide) (by decide)) ⟨Nat.zero_le _, Nat.zero_le _⟩ dX11_weatherFault_18 (fun x4 M4 H locs g4 hM hv hw => ?_)
        have hv := hv g4
        refine lv_istore_n (lv' := [(2, .int (iI x4)), (0, .ref (ad 155)), (1, .int (iI v1))]) hx hb dX11_weatherFault_21 rfl hl (by decide) rfl (fun ls hl => ?_)
        refine lv_iload_n hx hb dX11_weatherFault_22 rfl (lv_at hl 2 rfl) ?_
        refine r_bipush hx hb dX11_weatherFault_23 (by decide +kernel) ?_
        refine r_icmp_eq (tgt := 40) hx hb dX11_weatherFault_25 (by decide) c2 (by decide) (fun b5 => ?_) (fun b5 => ?_)
        · have hv := hv.1 b5
          refine lv_iload_n hx hb dX11_weatherFault_40 rfl (lv_at hl 2 rfl) ?_
          exact k_iret (wq_X τ ad) hx hb hr hlk hw hM c2 hv dX11_weatherFault_41
        · have hv := hv.2 b5
          refine lv_iload_n hx hb dX11_weatherFault_28 rfl (lv_at hl 0 rfl) ?_
          refine r_bipush hx hb dX11_weatherFault_29 (by decide +kernel) ?_
          refine r_icmp_lt (tgt := 40) hx hb dX11_weatherFault_31 (by decide) g4 (by decide) (fun b6 => ?_) (fun b6 => ?_)
          · have hv := hv.1 b6
            refine lv_iload_n hx hb dX11_weatherFault_40 rfl (lv_at hl 2 rfl) ?_
            exact k_iret (wq_X τ ad) hx hb hr hlk hw hM c2 hv dX11_weatherFault_41
          · have hv := hv.2 b6
            refine lv_iload_n hx hb dX11_weatherFault_34 rfl (lv_at hl 0 rfl) ?_
            refine r_bipush hx hb dX11_weatherFault_35 (by decide +kernel) ?_
            refine r_icmp_le (tgt := 42) hx hb dX11_weatherFault_37 (by decide) g4 (by decide) (fun b7 => ?_) (fun b7 => ?_)
            · have hv := hv.1 b7
              refine r_iinc (v := (v1 + 1)) (lv' := [(1, .int (iI (v1 + 1))), (2, .int (iI x4)), (0, .ref (ad 155))]) hx hb dX11_weatherFault_42 hl (k := 2) rfl rfl (by decide) rfl (fun ls hl => ?_)
              refine lv_goto (tgt := 2) hx hb dX11_weatherFault_45 (by decide) ?_
              exact ih (v1 + 1) M4 _ _ _ hM hv hw (lv_sub hl [2, 0] rfl)
            · have hv := hv.2 b7
              refine lv_iload_n hx hb dX11_weatherFault_40 rfl (lv_at hl 2 rfl) ?_
              exact k_iret (wq_X τ ad) hx hb hr hlk hw hM c2 hv dX11_weatherFault_41
  refine r_iconst hx hb dX11_weatherFault_0 ?_
  refine lv_istore_n (lv' := [(1, .int (iI 0)), (0, .ref (ad 155))]) hx hb dX11_weatherFault_1 rfl hl (by decide) rfl (fun ls hl => ?_)
  obtain ⟨n8, hv⟩ := hv
  refine L2 _ ?_ n8 0 M _ _ _ hM hv hw (lv_sub hl [1, 0] rfl)
  · intro  M H locs ls hM hv hw hl
    refine lv_aload_n hx hb dX11_weatherFault_48 rfl (lv_at hl 0 rfl) ?_
    refine gf_X11_10 hx hb hC hw 155 (gX_155 τ ad M) rfl dX11_weatherFault_49 ?_
    refine k_cVz (wq_X τ ad) hx hb hml hC hLS hA hw hl.1 (mX9_isEmpty l D τ ad sA sV _   M hM _ hv) kX9_isEmpty ml_X11_145 rfl (gX_156 τ ad M) rfl rfl (Nat.le_of_ble_eq_true rfl) (rm_ok (by decide) (by decide)) ⟨Nat.zero_le _, Nat.zero_le _⟩ dX11_weatherFault_52 (fun x9 M9 H locs g9 z9 hM hv hw => ?_)
    have hv := hv g9 z9
    refine r_if_eq (tgt := 62) hx hb dX11_weatherFault_55 (by decide) g9  (fun b10 => ?_) (fun b10 => ?_)
    · have hv := hv.1 b10
      refine r_iconst hx hb dX11_weatherFault_62 ?_
      exact k_iret (wq_X τ ad) hx hb hr hlk hw hM (by decide) hv dX11_weatherFault_63
    · have hv := hv.2 b10
      refine r_iconst hx hb dX11_weatherFault_58 ?_
      refine lv_goto (tgt := 63) hx hb dX11_weatherFault_59 (by decide) ?_
      exact k_iret (wq_X τ ad) hx hb hr hlk hw hM (by decide) hv dX11_weatherFault_63
set_option maxHeartbeats 4000000 in
set_option maxRecDepth 100000 in
theorem mX8_takeWeather (l : Launch) (D : va_G) (τ : Nat → ClassId) (ad : Nat → Nat) (sA sV : Nat → Nat) (sz : Nat)   (M : Mem) (hM : MR M) (Q : Mem → Prop) (hv : qX8_takeWeather  M Q) : Met l yX8_takeWeather (lw_w yX8_takeWeather cX8_takeWeather 3 none) (rmk 2 0 0) (kPc D τ sA sV (WX τ ad M) sz [.ref (ad 158), .ref (ad 156)]) (gQv D (EQv (WX τ ad) MR Q) (va_A (WX τ ad M) sz)) 0 0 (va_A (WX τ ad M) sz) := by
  refine k_met (ret := none) (Qc := gQv D (EQv (WX τ ad) MR Q)) (by decide +kernel) (Nat.le_of_ble_eq_true rfl) ?_
  intro p e s m args below meth c A ls hx hb hml hr hlk hnm hC hLS hA hw hl
  have hC : cx D τ s m args RX8 := hC
  have hl : lv_has ls 3 [(0, .ref (ad 158)), (1, .ref (ad 156))] := hl
  unfold qX8_takeWeather at hv
  have L10 : ∀ (n : Nat) (v2 : Int) (M : Mem) (H : Heap) (locs : List Loc) (ls : Array Slot), MR M → qX8_takeWeather_L10   Q n v2 M → wS D A s.heap (WX τ ad M) H locs → lv_has ls 3 [(0, .ref (ad 158)), (1, .ref (ad 156)), (2, .int (iI v2))] → W p l e (rmk 2 0 0) s m args below meth c H locs 0 0 (MQ below (gQv D (EQv (WX τ ad) MR Q) A) args s 0 0 A) (F0 m 10 ls []) := by
    intro n
    induction n with
    | zero => intro v2 M H locs ls hM hv; rw [qX8_takeWeather_L10] at hv; exact hv.elim
    | succ n ih =>
      intro v2 M H locs ls hM hv hw hl
      rw [qX8_takeWeather_L10] at hv
      refine lv_iload_n hx hb dX8_takeWeather_10 rfl (lv_at hl 2 rfl) ?_
      refine lv_aload_n hx hb dX8_takeWeather_11 rfl (lv_at hl 0 rfl) ?_
      refine gf_X8_22 hx hb hC hw 158 (gX_158 τ ad M) rfl dX8_takeWeather_12 ?_
      refine r_top (fun x3 e3 => ?_)
      have g3 : iR x3 := by rw [e3]; exact hM.get (by decide) _
      have hv := hv x3 e3 g3
      obtain ⟨c4, hv⟩ := hv
      refine r_icmp_ge (tgt := 38) hx hb dX8_takeWeather_15 (by decide) c4 g3 (fun b5 => ?_) (fun b5 => ?_)
      · have hv := hv.1 b5
        exact k_vret (wq_X τ ad) hx hb hr hlk hw hM hv dX8_takeWeather_38
      · have hv := hv.2 b5
        refine lv_aload_n hx hb dX8_takeWeather_18 rfl (lv_at hl 0 rfl) ?_
        refine gf_X8_9 hx hb hC hw 158 (gX_158 τ ad M) rfl dX8_takeWeather_19 ?_
        refine lv_iload_n hx hb dX8_takeWeather_22 rfl (lv_at hl 2 rfl) ?_
        refine lv_aload_n hx hb dX8_takeWeather_23 rfl (lv_at hl 1 rfl) ?_
        refine lv_iload_n hx hb dX8_takeWeather_24 rfl (lv_at hl 2 rfl) ?_
        refine k_cVi (wq_X τ ad) hx hb hml hC hLS hA hw hl.1 (mX9_signAt l D τ ad sA sV _ v2 c4 M hM _ hv) kX9_signAt ml_X8_30 rfl (gX_156 τ ad M) rfl rfl (Nat.le_of_ble_eq_true rfl) (rm_ok (by decide) (by decide)) ⟨Nat.zero_le _, Nat.zero_le _⟩ dX8_takeWeather_25 (fun x6 M6 H locs g6 hM hv hw => ?_)
        have hv := hv g6
        refine r_bipush hx hb dX8_takeWeather_28 (by decide +kernel) ?_
        refine r_isub (z := (x6 - 48)) hx hb dX8_takeWeather_30 rfl ?_
        obtain ⟨c7, hv⟩ := hv
        obtain ⟨c8, hv⟩ := hv
        obtain ⟨c9, hv⟩ := hv
        obtain ⟨M10, e10⟩ : ∃ M10 : Mem, M10 = up2 M6 159 v2 (x6 - 48) := ⟨_, rfl⟩
        have hv := hv M10 e10
        refine r_iast (ws' := (WX τ ad M10)) hx hb hC hw 159 (gI_X aX_159 τ ad M6) c7 c8 (by decide) (by rw [e10]; exact sI_X aX_159 τ ad M6 _ _) dX8_takeWeather_31 (fun H locs hw => ?_)
        have hM : MR M10 := by rw [e10]; exact hM.put aX_159.pos c9
        refine r_iinc (v := (v2 + 1)) (lv' := [(2, .int (iI (v2 + 1))), (0, .ref (ad 158)), (1, .ref (ad 156))]) hx hb dX8_takeWeather_32 hl (k := 2) rfl rfl (by decide) rfl (fun ls hl => ?_)
        refine lv_goto (tgt := 10) hx hb dX8_takeWeather_35 (by decide) ?_
        exact ih (v2 + 1) M10 _ _ _ hM hv hw (lv_sub hl [1, 2, 0] rfl)
  refine lv_aload_n hx hb dX8_takeWeather_0 rfl (lv_at hl 0 rfl) ?_
  refine lv_aload_n hx hb dX8_takeWeather_1 rfl (lv_at hl 1 rfl) ?_
  refine gf_X8_25 hx hb hC hw 156 (gX_156 τ ad M) rfl dX8_takeWeather_2 ?_
  refine r_top (fun x1 e1 => ?_)
  have g1 : iR x1 := by rw [e1]; exact hM.get (by decide) _
  have hv := hv x1 e1 g1
  obtain ⟨M2, e2⟩ : ∃ M2 : Mem, M2 = up2 M 158 3 x1 := ⟨_, rfl⟩
  have hv := hv M2 e2
  refine pf_X8_22 (ws' := (WX τ ad M2)) hx hb hC hw 158 (gX_158 τ ad M) (Nat.le_of_ble_eq_true rfl) (by rw [e2]; exact sX_158_3 τ ad M _) dX8_takeWeather_5 (fun H locs hw => ?_)
  have hM : MR M2 := by rw [e2]; exact hM.put (by decide) g1
  refine r_iconst hx hb dX8_takeWeather_8 ?_
  refine lv_istore_n (lv' := [(2, .int (iI 0)), (0, .ref (ad 158)), (1, .ref (ad 156))]) hx hb dX8_takeWeather_9 rfl hl (by decide) rfl (fun ls hl => ?_)
  obtain ⟨n11, hv⟩ := hv
  refine L10  n11 0 M2 _ _ _ hM hv hw (lv_sub hl [1, 2, 0] rfl)
set_option maxHeartbeats 4000000 in
set_option maxRecDepth 100000 in
theorem mX11_weather (l : Launch) (D : va_G) (τ : Nat → ClassId) (ad : Nat → Nat) (sA sV : Nat → Nat) (sz : Nat)   (M : Mem) (hM : MR M) (Q : Int → Mem → Prop) (hv : qX11_weather  M Q) : Met l yX11_weather (lw_w yX11_weather cX11_weather 3 (some .int)) (rmk 3 0 0) (kPc D τ sA sV (WX τ ad M) sz [.ref (ad 155)]) (gQi D (EQi (WX τ ad) MR Q) (va_A (WX τ ad M) sz)) 0 0 (va_A (WX τ ad M) sz) := by
  refine k_met (ret := (some .int)) (Qc := gQi D (EQi (WX τ ad) MR Q)) (by decide +kernel) (Nat.le_of_ble_eq_true rfl) ?_
  intro p e s m args below meth c A ls hx hb hml hr hlk hnm hC hLS hA hw hl
  have hC : cx D τ s m args RX11 := hC
  have hl : lv_has ls 3 [(0, .ref (ad 155))] := hl
  unfold qX11_weather at hv
  have J29 : ∀ (v1 : Int) (v2 : Int) (M : Mem) (H : Heap) (locs : List Loc) (ls : Array Slot), MR M → qX11_weather_J29  Q v1 v2 M → wS D A s.heap (WX τ ad M) H locs → lv_has ls 3 [(0, .ref (ad 155)), (1, .int (iI v1)), (2, .int (iI v2))] → W p l e (rmk 3 0 0) s m args below meth c H locs 0 0 (MQ below (gQi D (EQi (WX τ ad) MR Q) A) args s 0 0 A) (F0 m 29 ls []) := by
    intro v1 v2 M H locs ls hM hv hw hl
    unfold qX11_weather_J29 at hv
    refine lv_aload_n hx hb dX11_weather_29 rfl (lv_at hl 0 rfl) ?_
    refine gf_X11_10 hx hb hC hw 155 (gX_155 τ ad M) rfl dX11_weather_30 ?_
    refine k_cVv (wq_X τ ad) hx hb hml hC hLS hA hw hl.1 (mX9_clear l D τ ad sA sV _   M hM _ hv) kX9_clear ml_X11_140 rfl (gX_156 τ ad M) rfl rfl (Nat.le_of_ble_eq_true rfl) (rm_ok (by decide) (by decide)) ⟨Nat.zero_le _, Nat.zero_le _⟩ dX11_weather_33 (fun M4 H locs hM hv hw => ?_)
    refine lv_iload_n hx hb dX11_weather_36 rfl (lv_at hl 1 rfl) ?_
    refine r_iconst hx hb dX11_weather_37 ?_
    obtain ⟨c5, hv⟩ := hv
    refine r_icmp_ne (tgt := 45) hx hb dX11_weather_38 (by decide) c5 (by decide) (fun b6 => ?_) (fun b6 => ?_)
    · have hv := hv.1 b6
      refine r_iconst hx hb dX11_weather_45 ?_
      refine lv_iload_n hx hb dX11_weather_46 rfl (lv_at hl 1 rfl) ?_
      refine r_isub (z := ((-1) - v1)) hx hb dX11_weather_47 rfl ?_
      obtain ⟨c7, hv⟩ := hv
      exact k_iret (wq_X τ ad) hx hb hr hlk hw hM c7 hv dX11_weather_48
    · have hv := hv.2 b6
      refine lv_iload_n hx hb dX11_weather_41 rfl (lv_at hl 2 rfl) ?_
      refine lv_goto (tgt := 48) hx hb dX11_weather_42 (by decide) ?_
      obtain ⟨c8, hv⟩ := hv
      exact k_iret (wq_X τ ad) hx hb hr hlk hw hM c8 hv dX11_weather_48
  refine lv_aload_n hx hb dX11_weather_0 rfl (lv_at hl 0 rfl) ?_
  refine k_cVi (wq_X τ ad) hx hb hml hC hLS hA hw hl.1 (mX11_weatherFault l D τ ad sA sV _   M hM _ hv) kX11_weatherFault ml_X11_210 rfl (gX_155 τ ad M) rfl rfl (Nat.le_of_ble_eq_true rfl) (rm_ok (by decide) (by decide)) ⟨Nat.zero_le _, Nat.zero_le _⟩ dX11_weather_1 (fun x1 M1 H locs g1 hM hv hw => ?_)
  have hv := hv g1
  refine lv_istore_n (lv' := [(1, .int (iI x1)), (0, .ref (ad 155))]) hx hb dX11_weather_4 rfl hl (by decide) rfl (fun ls hl => ?_)
  refine lv_aload_n hx hb dX11_weather_5 rfl (lv_at hl 1 rfl) ?_
  refine gf_X11_10 hx hb hC hw 155 (gX_155 τ ad M1) rfl dX11_weather_6 ?_
  refine gf_X11_119 hx hb hC hw 156 (gX_156 τ ad M1) rfl dX11_weather_9 ?_
  refine r_top (fun x2 e2 => ?_)
  have g2 : iR x2 := by rw [e2]; exact hM.get (by decide) _
  have hv := hv x2 e2 g2
  refine lv_istore_n (lv' := [(2, .int (iI x2)), (1, .int (iI x1)), (0, .ref (ad 155))]) hx hb dX11_weather_12 rfl hl (by decide) rfl (fun ls hl => ?_)
  refine lv_iload_n hx hb dX11_weather_13 rfl (lv_at hl 1 rfl) ?_
  refine r_iconst hx hb dX11_weather_14 ?_
  refine r_icmp_ne (tgt := 29) hx hb dX11_weather_15 (by decide) g1 (by decide) (fun b3 => ?_) (fun b3 => ?_)
  · have hv := hv.1 b3
    exact J29 x1 x2 M1 _ _ _ hM hv hw (lv_sub hl [2, 1, 0] rfl)
  · have hv := hv.2 b3
    refine lv_aload_n hx hb dX11_weather_18 rfl (lv_at hl 2 rfl) ?_
    refine gf_X11_19 hx hb hC hw 155 (gX_155 τ ad M1) rfl dX11_weather_19 ?_
    refine lv_aload_n hx hb dX11_weather_22 rfl (lv_at hl 2 rfl) ?_
    refine gf_X11_10 hx hb hC hw 155 (gX_155 τ ad M1) rfl dX11_weather_23 ?_
    refine k_cVv (wq_X τ ad) hx hb hml hC hLS hA hw hl.1 (mX8_takeWeather l D τ ad sA sV _   M1 hM _ hv) kX8_takeWeather ml_X11_213 rfl (gX_158 τ ad M1) rfl rfl (Nat.le_of_ble_eq_true rfl) (rm_ok (by decide) (by decide)) ⟨Nat.zero_le _, Nat.zero_le _⟩ dX11_weather_26 (fun M9 H locs hM hv hw => ?_)
    exact J29 x1 x2 M9 _ _ _ hM hv hw (lv_sub hl [2, 1, 0] rfl)
set_option maxHeartbeats 4000000 in
set_option maxRecDepth 100000 in
theorem mX5_bindingOf (l : Launch) (D : va_G) (τ : Nat → ClassId) (ad : Nat → Nat) (sA sV : Nat → Nat) (sz : Nat) (p0 : Int) (hp0 : iR p0) (M : Mem) (hM : MR M) (Q : Int → Mem → Prop) (hv : qX5_bindingOf p0 M Q) : Met l yX5_bindingOf (lw_w yX5_bindingOf cX5_bindingOf 1 (some .int)) (rmk 1 0 0) (kPc D τ sA sV (WX τ ad M) sz [.int (iI p0)]) (gQi D (EQi (WX τ ad) MR Q) (va_A (WX τ ad M) sz)) 0 0 (va_A (WX τ ad M) sz) := by
  refine k_met (ret := (some .int)) (Qc := gQi D (EQi (WX τ ad) MR Q)) (by decide +kernel) (Nat.le_of_ble_eq_true rfl) ?_
  intro p e s m args below meth c A ls hx hb hml hr hlk hnm hC hLS hA hw hl
  have hC : cx D τ s m args RX5 := hC
  have hl : lv_has ls 1 [(0, .int (iI p0))] := hl
  unfold qX5_bindingOf at hv
  refine lv_iload_n hx hb dX5_bindingOf_0 rfl (lv_at hl 0 rfl) ?_
  rcases (show p0 = 42 ∨ p0 = 43 ∨ p0 = 45 ∨ p0 = 47 ∨ p0 = 60 ∨ p0 = 61 ∨ p0 = 62 ∨ p0 = 302 ∨ (¬ p0 = 42 ∧ ¬ p0 = 43 ∧ ¬ p0 = 45 ∧ ¬ p0 = 47 ∧ ¬ p0 = 60 ∧ ¬ p0 = 61 ∧ ¬ p0 = 62 ∧ ¬ p0 = 302) by omega) with b1 | b1 | b1 | b1 | b1 | b1 | b1 | b1 | b1
  · refine r_lkI (tgt := 80) hx hb dX5_bindingOf_1 hp0 (by decide) (by rw [b1]; first | done | rfl) (by decide) ?_
    have hv := hv.1 b1
    refine r_iconst hx hb dX5_bindingOf_80 ?_
    exact k_iret (wq_X τ ad) hx hb hr hlk hw hM (by decide) hv dX5_bindingOf_81
  · refine r_lkI (tgt := 78) hx hb dX5_bindingOf_1 hp0 (by decide) (by rw [b1]; first | done | rfl) (by decide) ?_
    have hv := hv.2.1 b1
    refine r_iconst hx hb dX5_bindingOf_78 ?_
    exact k_iret (wq_X τ ad) hx hb hr hlk hw hM (by decide) hv dX5_bindingOf_79
  · refine r_lkI (tgt := 78) hx hb dX5_bindingOf_1 hp0 (by decide) (by rw [b1]; first | done | rfl) (by decide) ?_
    have hv := hv.2.2.1 b1
    refine r_iconst hx hb dX5_bindingOf_78 ?_
    exact k_iret (wq_X τ ad) hx hb hr hlk hw hM (by decide) hv dX5_bindingOf_79
  · refine r_lkI (tgt := 80) hx hb dX5_bindingOf_1 hp0 (by decide) (by rw [b1]; first | done | rfl) (by decide) ?_
    have hv := hv.2.2.2.1 b1
    refine r_iconst hx hb dX5_bindingOf_80 ?_
    exact k_iret (wq_X τ ad) hx hb hr hlk hw hM (by decide) hv dX5_bindingOf_81
  · refine r_lkI (tgt := 76) hx hb dX5_bindingOf_1 hp0 (by decide) (by rw [b1]; first | done | rfl) (by decide) ?_
    have hv := hv.2.2.2.2.1 b1
    refine r_iconst hx hb dX5_bindingOf_76 ?_
    exact k_iret (wq_X τ ad) hx hb hr hlk hw hM (by decide) hv dX5_bindingOf_77
  · refine r_lkI (tgt := 76) hx hb dX5_bindingOf_1 hp0 (by decide) (by rw [b1]; first | done | rfl) (by decide) ?_
    have hv := hv.2.2.2.2.2.1 b1
    refine r_iconst hx hb dX5_bindingOf_76 ?_
    exact k_iret (wq_X τ ad) hx hb hr hlk hw hM (by decide) hv dX5_bindingOf_77
  · refine r_lkI (tgt := 76) hx hb dX5_bindingOf_1 hp0 (by decide) (by rw [b1]; first | done | rfl) (by decide) ?_
    have hv := hv.2.2.2.2.2.2.1 b1
    refine r_iconst hx hb dX5_bindingOf_76 ?_
    exact k_iret (wq_X τ ad) hx hb hr hlk hw hM (by decide) hv dX5_bindingOf_77
  · refine r_lkI (tgt := 82) hx hb dX5_bindingOf_1 hp0 (by decide) (by rw [b1]; first | done | rfl) (by decide) ?_
    have hv := hv.2.2.2.2.2.2.2.1 b1
    refine r_iconst hx hb dX5_bindingOf_82 ?_
    exact k_iret (wq_X τ ad) hx hb hr hlk hw hM (by decide) hv dX5_bindingOf_83
  · refine r_lkI (off := 83) (tgt := 84) hx hb dX5_bindingOf_1 hp0 (by decide) (by simp [Op.lookupswitch.offset]; (repeat rw [if_neg (by omega)])) (by decide) ?_
    have hv := hv.2.2.2.2.2.2.2.2 b1
    refine r_iconst hx hb dX5_bindingOf_84 ?_
    exact k_iret (wq_X τ ad) hx hb hr hlk hw hM (by decide) hv dX5_bindingOf_85
set_option maxHeartbeats 4000000 in
set_option maxRecDepth 100000 in
theorem mX5_latestBinding (l : Launch) (D : va_G) (τ : Nat → ClassId) (ad : Nat → Nat) (sA sV : Nat → Nat) (sz : Nat)   (M : Mem) (hM : MR M) (Q : Int → Mem → Prop) (hv : qX5_latestBinding  M Q) : Met l yX5_latestBinding (lw_w yX5_latestBinding cX5_latestBinding 1 (some .int)) (rmk 2 0 0) (kPc D τ sA sV (WX τ ad M) sz [.ref (ad 185)]) (gQi D (EQi (WX τ ad) MR Q) (va_A (WX τ ad M) sz)) 0 0 (va_A (WX τ ad M) sz) := by
  refine k_met (ret := (some .int)) (Qc := gQi D (EQi (WX τ ad) MR Q)) (by decide +kernel) (Nat.le_of_ble_eq_true rfl) ?_
  intro p e s m args below meth c A ls hx hb hml hr hlk hnm hC hLS hA hw hl
  have hC : cx D τ s m args RX5 := hC
  have hl : lv_has ls 1 [(0, .ref (ad 185))] := hl
  unfold qX5_latestBinding at hv
  refine lv_aload_n hx hb dX5_latestBinding_0 rfl (lv_at hl 0 rfl) ?_
  refine gf_X5_15 hx hb hC hw 185 (gX_185 τ ad M) rfl dX5_latestBinding_1 ?_
  refine r_top (fun x1 e1 => ?_)
  have g1 : iR x1 := by rw [e1]; exact hM.get (by decide) _
  have hv := hv x1 e1 g1
  refine r_if_le (tgt := 24) hx hb dX5_latestBinding_4 (by decide) g1  (fun b2 => ?_) (fun b2 => ?_)
  · have hv := hv.1 b2
    refine r_iconst hx hb dX5_latestBinding_24 ?_
    exact k_iret (wq_X τ ad) hx hb hr hlk hw hM (by decide) hv dX5_latestBinding_25
  · have hv := hv.2 b2
    refine lv_aload_n hx hb dX5_latestBinding_7 rfl (lv_at hl 0 rfl) ?_
    refine gf_X5_9 hx hb hC hw 185 (gX_185 τ ad M) rfl dX5_latestBinding_8 ?_
    refine lv_aload_n hx hb dX5_latestBinding_11 rfl (lv_at hl 0 rfl) ?_
    refine gf_X5_15 hx hb hC hw 185 (gX_185 τ ad M) rfl dX5_latestBinding_12 ?_
    refine r_top (fun x3 e3 => ?_)
    have g3 : iR x3 := by rw [e3]; exact hM.get (by decide) _
    have hv := hv x3 e3 g3
    refine r_iconst hx hb dX5_latestBinding_15 ?_
    refine r_isub (z := (x3 - 1)) hx hb dX5_latestBinding_16 rfl ?_
    obtain ⟨c4, hv⟩ := hv
    obtain ⟨c5, hv⟩ := hv
    refine r_iald hx hb hC hw 186 (gI_X aX_186 τ ad M) c4 c5 (by decide) dX5_latestBinding_17 ?_
    refine r_top (fun x6 e6 => ?_)
    have g6 : iR x6 := by rw [e6]; exact hM.get aX_186.pos _
    have hv := hv x6 e6 g6
    refine k_cSi (wq_X τ ad) hx hb hml hC hLS hA hw hl.1 (mX5_bindingOf l D τ ad sA sV _ x6 g6 M hM _ hv) kX5_bindingOf ml_X5_92 rfl rfl (Nat.le_of_ble_eq_true rfl) (rm_ok (by decide) (by decide)) ⟨Nat.zero_le _, Nat.zero_le _⟩ dX5_latestBinding_18 (fun x7 M7 H locs g7 hM hv hw => ?_)
    have hv := hv g7
    refine lv_goto (tgt := 25) hx hb dX5_latestBinding_21 (by decide) ?_
    exact k_iret (wq_X τ ad) hx hb hr hlk hw hM g7 hv dX5_latestBinding_25
set_option maxHeartbeats 4000000 in
set_option maxRecDepth 100000 in
theorem mX5_release (l : Launch) (D : va_G) (τ : Nat → ClassId) (ad : Nat → Nat) (sA sV : Nat → Nat) (sz : Nat) (k1 : Nat) (p2 : Int) (hk1 : isL k1) (hp2 : iR p2) (M : Mem) (hM : MR M) (Q : Mem → Prop) (hv : qX5_release k1 p2 M Q) : Met l yX5_release (lw_w yX5_release cX5_release 3 none) (rmk 3 0 0) (kPc D τ sA sV (WX τ ad M) sz [.ref (ad 185), .ref (ad k1), .int (iI p2)]) (gQv D (EQv (WX τ ad) MR Q) (va_A (WX τ ad M) sz)) 0 0 (va_A (WX τ ad M) sz) := by
  refine k_met (ret := none) (Qc := gQv D (EQv (WX τ ad) MR Q)) (by decide +kernel) (Nat.le_of_ble_eq_true rfl) ?_
  intro p e s m args below meth c A ls hx hb hml hr hlk hnm hC hLS hA hw hl
  have hC : cx D τ s m args RX5 := hC
  have hl : lv_has ls 3 [(0, .ref (ad 185)), (1, .ref (ad k1)), (2, .int (iI p2))] := hl
  unfold qX5_release at hv
  have L0 : ∀ (n : Nat)  (M : Mem) (H : Heap) (locs : List Loc) (ls : Array Slot), MR M → qX5_release_L0 k1 p2  Q n  M → wS D A s.heap (WX τ ad M) H locs → lv_has ls 3 [(0, .ref (ad 185)), (1, .ref (ad k1)), (2, .int (iI p2))] → W p l e (rmk 3 0 0) s m args below meth c H locs 0 0 (MQ below (gQv D (EQv (WX τ ad) MR Q) A) args s 0 0 A) (F0 m 0 ls []) := by
    intro n
    induction n with
    | zero => intro  M H locs ls hM hv; rw [qX5_release_L0] at hv; exact hv.elim
    | succ n ih =>
      intro  M H locs ls hM hv hw hl
      rw [qX5_release_L0] at hv
      refine lv_aload_n hx hb dX5_release_0 rfl (lv_at hl 0 rfl) ?_
      refine gf_X5_15 hx hb hC hw 185 (gX_185 τ ad M) rfl dX5_release_1 ?_
      refine r_top (fun x13 e13 => ?_)
      have g13 : iR x13 := by rw [e13]; exact hM.get (by decide) _
      have hv := hv x13 e13 g13
      refine r_if_le (tgt := 42) hx hb dX5_release_4 (by decide) g13  (fun b14 => ?_) (fun b14 => ?_)
      · have hv := hv.1 b14
        exact k_vret (wq_X τ ad) hx hb hr hlk hw hM hv dX5_release_42
      · have hv := hv.2 b14
        refine lv_aload_n hx hb dX5_release_7 rfl (lv_at hl 0 rfl) ?_
        refine k_cVi (wq_X τ ad) hx hb hml hC hLS hA hw hl.1 (mX5_latestBinding l D τ ad sA sV _   M hM _ hv) kX5_latestBinding ml_X5_95 rfl (gX_185 τ ad M) rfl rfl (Nat.le_of_ble_eq_true rfl) (rm_ok (by decide) (by decide)) ⟨Nat.zero_le _, Nat.zero_le _⟩ dX5_release_8 (fun x15 M15 H locs g15 hM hv hw => ?_)
        have hv := hv g15
        refine lv_iload_n hx hb dX5_release_11 rfl (lv_at hl 2 rfl) ?_
        refine r_icmp_lt (tgt := 42) hx hb dX5_release_12 (by decide) g15 hp2 (fun b16 => ?_) (fun b16 => ?_)
        · have hv := hv.1 b16
          exact k_vret (wq_X τ ad) hx hb hr hlk hw hM hv dX5_release_42
        · have hv := hv.2 b16
          refine lv_aload_n hx hb dX5_release_15 rfl (lv_at hl 0 rfl) ?_
          refine lv_dup hx hb dX5_release_16 rfl ?_
          refine gf_X5_15 hx hb hC hw 185 (gX_185 τ ad M15) rfl dX5_release_17 ?_
          refine r_top (fun x17 e17 => ?_)
          have g17 : iR x17 := by rw [e17]; exact hM.get (by decide) _
          have hv := hv x17 e17 g17
          refine r_iconst hx hb dX5_release_20 ?_
          refine r_isub (z := (x17 - 1)) hx hb dX5_release_21 rfl ?_
          obtain ⟨c18, hv⟩ := hv
          obtain ⟨M19, e19⟩ : ∃ M19 : Mem, M19 = up2 M15 185 1 (x17 - 1) := ⟨_, rfl⟩
          have hv := hv M19 e19
          refine pf_X5_15 (ws' := (WX τ ad M19)) hx hb hC hw 185 (gX_185 τ ad M15) (Nat.le_of_ble_eq_true rfl) (by rw [e19]; exact sX_185_1 τ ad M15 _) dX5_release_22 (fun H locs hw => ?_)
          have hM : MR M19 := by rw [e19]; exact hM.put (by decide) c18
          refine lv_aload_n hx hb dX5_release_25 rfl (lv_at hl 1 rfl) ?_
          refine lv_aload_n hx hb dX5_release_26 rfl (lv_at hl 0 rfl) ?_
          refine gf_X5_9 hx hb hC hw 185 (gX_185 τ ad M19) rfl dX5_release_27 ?_
          refine lv_aload_n hx hb dX5_release_30 rfl (lv_at hl 0 rfl) ?_
          refine gf_X5_15 hx hb hC hw 185 (gX_185 τ ad M19) rfl dX5_release_31 ?_
          refine r_top (fun x20 e20 => ?_)
          have g20 : iR x20 := by rw [e20]; exact hM.get (by decide) _
          have hv := hv x20 e20 g20
          obtain ⟨c21, hv⟩ := hv
          obtain ⟨c22, hv⟩ := hv
          refine r_iald hx hb hC hw 186 (gI_X aX_186 τ ad M19) c21 c22 (by decide) dX5_release_34 ?_
          refine r_top (fun x23 e23 => ?_)
          have g23 : iR x23 := by rw [e23]; exact hM.get aX_186.pos _
          have hv := hv x23 e23 g23
          refine r_iconst hx hb dX5_release_35 ?_
          refine k_cVv (wq_X τ ad) hx hb hml hC hLS hA hw hl.1 (mX2_add l D τ ad sA sV _ k1 x23 0 hk1 g23 (by decide) M19 hM _ hv) kX2_add ml_X5_68 rfl (gL_X hk1 τ ad M19) rfl rfl (Nat.le_of_ble_eq_true rfl) (rm_ok (by decide) (by decide)) ⟨Nat.zero_le _, Nat.zero_le _⟩ dX5_release_36 (fun M24 H locs hM hv hw => ?_)
          refine lv_goto (tgt := 0) hx hb dX5_release_39 (by decide) ?_
          exact ih  M24 _ _ _ hM hv hw (lv_sub hl [0, 1, 2] rfl)
  refine lv_aload_n hx hb dX5_release_0 rfl (lv_at hl 0 rfl) ?_
  refine gf_X5_15 hx hb hC hw 185 (gX_185 τ ad M) rfl dX5_release_1 ?_
  refine r_top (fun x1 e1 => ?_)
  have g1 : iR x1 := by rw [e1]; exact hM.get (by decide) _
  have hv := hv x1 e1 g1
  refine r_if_le (tgt := 42) hx hb dX5_release_4 (by decide) g1  (fun b2 => ?_) (fun b2 => ?_)
  · have hv := hv.1 b2
    exact k_vret (wq_X τ ad) hx hb hr hlk hw hM hv dX5_release_42
  · have hv := hv.2 b2
    refine lv_aload_n hx hb dX5_release_7 rfl (lv_at hl 0 rfl) ?_
    refine k_cVi (wq_X τ ad) hx hb hml hC hLS hA hw hl.1 (mX5_latestBinding l D τ ad sA sV _   M hM _ hv) kX5_latestBinding ml_X5_95 rfl (gX_185 τ ad M) rfl rfl (Nat.le_of_ble_eq_true rfl) (rm_ok (by decide) (by decide)) ⟨Nat.zero_le _, Nat.zero_le _⟩ dX5_release_8 (fun x3 M3 H locs g3 hM hv hw => ?_)
    have hv := hv g3
    refine lv_iload_n hx hb dX5_release_11 rfl (lv_at hl 2 rfl) ?_
    refine r_icmp_lt (tgt := 42) hx hb dX5_release_12 (by decide) g3 hp2 (fun b4 => ?_) (fun b4 => ?_)
    · have hv := hv.1 b4
      exact k_vret (wq_X τ ad) hx hb hr hlk hw hM hv dX5_release_42
    · have hv := hv.2 b4
      refine lv_aload_n hx hb dX5_release_15 rfl (lv_at hl 0 rfl) ?_
      refine lv_dup hx hb dX5_release_16 rfl ?_
      refine gf_X5_15 hx hb hC hw 185 (gX_185 τ ad M3) rfl dX5_release_17 ?_
      refine r_top (fun x5 e5 => ?_)
      have g5 : iR x5 := by rw [e5]; exact hM.get (by decide) _
      have hv := hv x5 e5 g5
      refine r_iconst hx hb dX5_release_20 ?_
      refine r_isub (z := (x5 - 1)) hx hb dX5_release_21 rfl ?_
      obtain ⟨c6, hv⟩ := hv
      obtain ⟨M7, e7⟩ : ∃ M7 : Mem, M7 = up2 M3 185 1 (x5 - 1) := ⟨_, rfl⟩
      have hv := hv M7 e7
      refine pf_X5_15 (ws' := (WX τ ad M7)) hx hb hC hw 185 (gX_185 τ ad M3) (Nat.le_of_ble_eq_true rfl) (by rw [e7]; exact sX_185_1 τ ad M3 _) dX5_release_22 (fun H locs hw => ?_)
      have hM : MR M7 := by rw [e7]; exact hM.put (by decide) c6
      refine lv_aload_n hx hb dX5_release_25 rfl (lv_at hl 1 rfl) ?_
      refine lv_aload_n hx hb dX5_release_26 rfl (lv_at hl 0 rfl) ?_
      refine gf_X5_9 hx hb hC hw 185 (gX_185 τ ad M7) rfl dX5_release_27 ?_
      refine lv_aload_n hx hb dX5_release_30 rfl (lv_at hl 0 rfl) ?_
      refine gf_X5_15 hx hb hC hw 185 (gX_185 τ ad M7) rfl dX5_release_31 ?_
      refine r_top (fun x8 e8 => ?_)
      have g8 : iR x8 := by rw [e8]; exact hM.get (by decide) _
      have hv := hv x8 e8 g8
      obtain ⟨c9, hv⟩ := hv
      obtain ⟨c10, hv⟩ := hv
      refine r_iald hx hb hC hw 186 (gI_X aX_186 τ ad M7) c9 c10 (by decide) dX5_release_34 ?_
      refine r_top (fun x11 e11 => ?_)
      have g11 : iR x11 := by rw [e11]; exact hM.get aX_186.pos _
      have hv := hv x11 e11 g11
      refine r_iconst hx hb dX5_release_35 ?_
      refine k_cVv (wq_X τ ad) hx hb hml hC hLS hA hw hl.1 (mX2_add l D τ ad sA sV _ k1 x11 0 hk1 g11 (by decide) M7 hM _ hv) kX2_add ml_X5_68 rfl (gL_X hk1 τ ad M7) rfl rfl (Nat.le_of_ble_eq_true rfl) (rm_ok (by decide) (by decide)) ⟨Nat.zero_le _, Nat.zero_le _⟩ dX5_release_36 (fun M12 H locs hM hv hw => ?_)
      refine lv_goto (tgt := 0) hx hb dX5_release_39 (by decide) ?_
      obtain ⟨n25, hv⟩ := hv
      refine L0  n25  M12 _ _ _ hM hv hw (lv_sub hl [0, 1, 2] rfl)
set_option maxHeartbeats 4000000 in
set_option maxRecDepth 100000 in
theorem mX5_hold (l : Launch) (D : va_G) (τ : Nat → ClassId) (ad : Nat → Nat) (sA sV : Nat → Nat) (sz : Nat) (p1 : Int) (hp1 : iR p1) (M : Mem) (hM : MR M) (Q : Mem → Prop) (hv : qX5_hold p1 M Q) : Met l yX5_hold (lw_w yX5_hold cX5_hold 2 none) (rmk 1 0 0) (kPc D τ sA sV (WX τ ad M) sz [.ref (ad 185), .int (iI p1)]) (gQv D (EQv (WX τ ad) MR Q) (va_A (WX τ ad M) sz)) 0 0 (va_A (WX τ ad M) sz) := by
  refine k_met (ret := none) (Qc := gQv D (EQv (WX τ ad) MR Q)) (by decide +kernel) (Nat.le_of_ble_eq_true rfl) ?_
  intro p e s m args below meth c A ls hx hb hml hr hlk hnm hC hLS hA hw hl
  have hC : cx D τ s m args RX5 := hC
  have hl : lv_has ls 2 [(0, .ref (ad 185)), (1, .int (iI p1))] := hl
  unfold qX5_hold at hv
  refine lv_aload_n hx hb dX5_hold_0 rfl (lv_at hl 0 rfl) ?_
  refine gf_X5_15 hx hb hC hw 185 (gX_185 τ ad M) rfl dX5_hold_1 ?_
  refine r_top (fun x1 e1 => ?_)
  have g1 : iR x1 := by rw [e1]; exact hM.get (by decide) _
  have hv := hv x1 e1 g1
  refine r_bipush hx hb dX5_hold_4 (by decide +kernel) ?_
  refine r_icmp_ge (tgt := 29) hx hb dX5_hold_6 (by decide) g1 (by decide) (fun b2 => ?_) (fun b2 => ?_)
  · have hv := hv.1 b2
    exact k_vret (wq_X τ ad) hx hb hr hlk hw hM hv dX5_hold_29
  · have hv := hv.2 b2
    refine lv_aload_n hx hb dX5_hold_9 rfl (lv_at hl 0 rfl) ?_
    refine gf_X5_9 hx hb hC hw 185 (gX_185 τ ad M) rfl dX5_hold_10 ?_
    refine lv_aload_n hx hb dX5_hold_13 rfl (lv_at hl 0 rfl) ?_
    refine gf_X5_15 hx hb hC hw 185 (gX_185 τ ad M) rfl dX5_hold_14 ?_
    refine r_top (fun x3 e3 => ?_)
    have g3 : iR x3 := by rw [e3]; exact hM.get (by decide) _
    have hv := hv x3 e3 g3
    refine lv_iload_n hx hb dX5_hold_17 rfl (lv_at hl 1 rfl) ?_
    obtain ⟨c4, hv⟩ := hv
    obtain ⟨c5, hv⟩ := hv
    obtain ⟨M6, e6⟩ : ∃ M6 : Mem, M6 = up2 M 186 x3 p1 := ⟨_, rfl⟩
    have hv := hv M6 e6
    refine r_iast (ws' := (WX τ ad M6)) hx hb hC hw 186 (gI_X aX_186 τ ad M) c4 c5 (by decide) (by rw [e6]; exact sI_X aX_186 τ ad M _ _) dX5_hold_18 (fun H locs hw => ?_)
    have hM : MR M6 := by rw [e6]; exact hM.put aX_186.pos hp1
    refine lv_aload_n hx hb dX5_hold_19 rfl (lv_at hl 0 rfl) ?_
    refine lv_dup hx hb dX5_hold_20 rfl ?_
    refine gf_X5_15 hx hb hC hw 185 (gX_185 τ ad M6) rfl dX5_hold_21 ?_
    refine r_top (fun x7 e7 => ?_)
    have g7 : iR x7 := by rw [e7]; exact hM.get (by decide) _
    have hv := hv x7 e7 g7
    refine r_iconst hx hb dX5_hold_24 ?_
    refine r_iadd (z := (x7 + 1)) hx hb dX5_hold_25 rfl ?_
    obtain ⟨c8, hv⟩ := hv
    obtain ⟨M9, e9⟩ : ∃ M9 : Mem, M9 = up2 M6 185 1 (x7 + 1) := ⟨_, rfl⟩
    have hv := hv M9 e9
    refine pf_X5_15 (ws' := (WX τ ad M9)) hx hb hC hw 185 (gX_185 τ ad M6) (Nat.le_of_ble_eq_true rfl) (by rw [e9]; exact sX_185_1 τ ad M6 _) dX5_hold_26 (fun H locs hw => ?_)
    have hM : MR M9 := by rw [e9]; exact hM.put (by decide) c8
    exact k_vret (wq_X τ ad) hx hb hr hlk hw hM hv dX5_hold_29
set_option maxHeartbeats 4000000 in
set_option maxRecDepth 100000 in
theorem mX5_takeSign (l : Launch) (D : va_G) (τ : Nat → ClassId) (ad : Nat → Nat) (sA sV : Nat → Nat) (sz : Nat) (k2 : Nat) (hk2 : isL k2) (M : Mem) (hM : MR M) (Q : Int → Mem → Prop) (hv : qX5_takeSign k2 M Q) : Met l yX5_takeSign (lw_w yX5_takeSign cX5_takeSign 5 (some .boolean)) (rmk 4 0 0) (kPc D τ sA sV (WX τ ad M) sz [.ref (ad 185), .ref (ad 156), .ref (ad k2)]) (gQi D (EQz (WX τ ad) MR Q) (va_A (WX τ ad M) sz)) 0 0 (va_A (WX τ ad M) sz) := by
  refine k_met (ret := (some .boolean)) (Qc := gQi D (EQz (WX τ ad) MR Q)) (by decide +kernel) (Nat.le_of_ble_eq_true rfl) ?_
  intro p e s m args below meth c A ls hx hb hml hr hlk hnm hC hLS hA hw hl
  have hC : cx D τ s m args RX5 := hC
  have hl : lv_has ls 5 [(0, .ref (ad 185)), (1, .ref (ad 156)), (2, .ref (ad k2))] := hl
  unfold qX5_takeSign at hv
  have J116 : ∀  (M : Mem) (H : Heap) (locs : List Loc) (ls : Array Slot), MR M → qX5_takeSign_J116 k2 Q  M → wS D A s.heap (WX τ ad M) H locs → lv_has ls 5 [(1, .ref (ad 156))] → W p l e (rmk 4 0 0) s m args below meth c H locs 0 0 (MQ below (gQi D (EQz (WX τ ad) MR Q) A) args s 0 0 A) (F0 m 116 ls []) := by
    intro  M H locs ls hM hv hw hl
    unfold qX5_takeSign_J116 at hv
    refine lv_aload_n hx hb dX5_takeSign_116 rfl (lv_at hl 0 rfl) ?_
    refine k_cVv (wq_X τ ad) hx hb hml hC hLS hA hw hl.1 (mX9_pass l D τ ad sA sV _   M hM _ hv) kX9_pass ml_X5_89 rfl (gX_156 τ ad M) rfl rfl (Nat.le_of_ble_eq_true rfl) (rm_ok (by decide) (by decide)) ⟨Nat.zero_le _, Nat.zero_le _⟩ dX5_takeSign_117 (fun M11 H locs hM hv hw => ?_)
    refine r_iconst hx hb dX5_takeSign_120 ?_
    exact k_zret (wq_X τ ad) hx hb hr hlk hw hM (by decide) (by decide) hv dX5_takeSign_121
  have J53 : ∀ (v3 : Int) (v4 : Int) (M : Mem) (H : Heap) (locs : List Loc) (ls : Array Slot), MR M → qX5_takeSign_J53 k2 Q v3 v4 M → wS D A s.heap (WX τ ad M) H locs → lv_has ls 5 [(0, .ref (ad 185)), (1, .ref (ad 156)), (2, .ref (ad k2)), (3, .int (iI v3)), (4, .int (iI v4))] → W p l e (rmk 4 0 0) s m args below meth c H locs 0 0 (MQ below (gQi D (EQz (WX τ ad) MR Q) A) args s 0 0 A) (F0 m 53 ls []) := by
    intro v3 v4 M H locs ls hM hv hw hl
    unfold qX5_takeSign_J53 at hv
    refine lv_iload hx hb dX5_takeSign_53 (lv_at hl 4 rfl) ?_
    refine r_iconst hx hb dX5_takeSign_55 ?_
    obtain ⟨c4, hv⟩ := hv
    refine r_icmp_ne (tgt := 88) hx hb dX5_takeSign_56 (by decide) c4 (by decide) (fun b5 => ?_) (fun b5 => ?_)
    · have hv := hv.1 b5
      refine lv_iload hx hb dX5_takeSign_88 (lv_at hl 4 rfl) ?_
      refine r_iconst hx hb dX5_takeSign_90 ?_
      refine r_icmp_le (tgt := 114) hx hb dX5_takeSign_91 (by decide) c4 (by decide) (fun b6 => ?_) (fun b6 => ?_)
      · have hv := hv.1 b6
        refine r_iconst hx hb dX5_takeSign_114 ?_
        exact k_zret (wq_X τ ad) hx hb hr hlk hw hM (by decide) (by decide) hv dX5_takeSign_115
      · have hv := hv.2 b6
        refine lv_aload_n hx hb dX5_takeSign_94 rfl (lv_at hl 0 rfl) ?_
        refine lv_aload_n hx hb dX5_takeSign_95 rfl (lv_at hl 2 rfl) ?_
        refine lv_iload hx hb dX5_takeSign_96 (lv_at hl 4 rfl) ?_
        refine k_cVv (wq_X τ ad) hx hb hml hC hLS hA hw hl.1 (mX5_release l D τ ad sA sV _ k2 v4 hk2 c4 M hM _ hv) kX5_release ml_X5_60 rfl (gX_185 τ ad M) rfl rfl (Nat.le_of_ble_eq_true rfl) (rm_ok (by decide) (by decide)) ⟨Nat.zero_le _, Nat.zero_le _⟩ dX5_takeSign_98 (fun M7 H locs hM hv hw => ?_)
        refine lv_aload_n hx hb dX5_takeSign_101 rfl (lv_at hl 0 rfl) ?_
        refine lv_iload_n hx hb dX5_takeSign_102 rfl (lv_at hl 3 rfl) ?_
        obtain ⟨c8, hv⟩ := hv
        refine k_cVv (wq_X τ ad) hx hb hml hC hLS hA hw hl.1 (mX5_hold l D τ ad sA sV _ v3 c8 M7 hM _ hv) kX5_hold ml_X5_76 rfl (gX_185 τ ad M7) rfl rfl (Nat.le_of_ble_eq_true rfl) (rm_ok (by decide) (by decide)) ⟨Nat.zero_le _, Nat.zero_le _⟩ dX5_takeSign_103 (fun M9 H locs hM hv hw => ?_)
        refine lv_aload_n hx hb dX5_takeSign_106 rfl (lv_at hl 0 rfl) ?_
        refine r_iconst hx hb dX5_takeSign_107 ?_
        obtain ⟨M10, e10⟩ : ∃ M10 : Mem, M10 = up2 M9 185 3 1 := ⟨_, rfl⟩
        have hv := hv M10 e10
        refine pf_X5_22 (ws' := (WX τ ad M10)) hx hb hC hw 185 (by decide) (gX_185 τ ad M9) (Nat.le_of_ble_eq_true rfl) (by rw [e10]; exact sX_185_3 τ ad M9 _) dX5_takeSign_108 (fun H locs hw => ?_)
        have hM : MR M10 := by rw [e10]; exact hM.put (by decide) (by decide)
        refine lv_goto (tgt := 116) hx hb dX5_takeSign_111 (by decide) ?_
        exact J116  M10 _ _ _ hM hv hw (lv_sub hl [1] rfl)
    · have hv := hv.2 b5
      refine lv_aload_n hx hb dX5_takeSign_59 rfl (lv_at hl 0 rfl) ?_
      refine lv_aload_n hx hb dX5_takeSign_60 rfl (lv_at hl 2 rfl) ?_
      refine r_iconst hx hb dX5_takeSign_61 ?_
      refine k_cVv (wq_X τ ad) hx hb hml hC hLS hA hw hl.1 (mX5_release l D τ ad sA sV _ k2 2 hk2 (by decide) M hM _ hv) kX5_release ml_X5_60 rfl (gX_185 τ ad M) rfl rfl (Nat.le_of_ble_eq_true rfl) (rm_ok (by decide) (by decide)) ⟨Nat.zero_le _, Nat.zero_le _⟩ dX5_takeSign_62 (fun M12 H locs hM hv hw => ?_)
      refine lv_aload_n hx hb dX5_takeSign_65 rfl (lv_at hl 0 rfl) ?_
      refine k_cVi (wq_X τ ad) hx hb hml hC hLS hA hw hl.1 (mX5_latestBinding l D τ ad sA sV _   M12 hM _ hv) kX5_latestBinding ml_X5_95 rfl (gX_185 τ ad M12) rfl rfl (Nat.le_of_ble_eq_true rfl) (rm_ok (by decide) (by decide)) ⟨Nat.zero_le _, Nat.zero_le _⟩ dX5_takeSign_66 (fun x13 M13 H locs g13 hM hv hw => ?_)
      have hv := hv g13
      refine r_iconst hx hb dX5_takeSign_69 ?_
      refine r_icmp_ne (tgt := 75) hx hb dX5_takeSign_70 (by decide) g13 (by decide) (fun b14 => ?_) (fun b14 => ?_)
      · have hv := hv.1 b14
        refine lv_aload_n hx hb dX5_takeSign_75 rfl (lv_at hl 0 rfl) ?_
        refine lv_iload_n hx hb dX5_takeSign_76 rfl (lv_at hl 3 rfl) ?_
        obtain ⟨c15, hv⟩ := hv
        refine k_cVv (wq_X τ ad) hx hb hml hC hLS hA hw hl.1 (mX5_hold l D τ ad sA sV _ v3 c15 M13 hM _ hv) kX5_hold ml_X5_76 rfl (gX_185 τ ad M13) rfl rfl (Nat.le_of_ble_eq_true rfl) (rm_ok (by decide) (by decide)) ⟨Nat.zero_le _, Nat.zero_le _⟩ dX5_takeSign_77 (fun M16 H locs hM hv hw => ?_)
        refine lv_aload_n hx hb dX5_takeSign_80 rfl (lv_at hl 0 rfl) ?_
        refine r_iconst hx hb dX5_takeSign_81 ?_
        obtain ⟨M17, e17⟩ : ∃ M17 : Mem, M17 = up2 M16 185 3 1 := ⟨_, rfl⟩
        have hv := hv M17 e17
        refine pf_X5_22 (ws' := (WX τ ad M17)) hx hb hC hw 185 (by decide) (gX_185 τ ad M16) (Nat.le_of_ble_eq_true rfl) (by rw [e17]; exact sX_185_3 τ ad M16 _) dX5_takeSign_82 (fun H locs hw => ?_)
        have hM : MR M17 := by rw [e17]; exact hM.put (by decide) (by decide)
        refine lv_goto (tgt := 116) hx hb dX5_takeSign_85 (by decide) ?_
        exact J116  M17 _ _ _ hM hv hw (lv_sub hl [1] rfl)
      · have hv := hv.2 b14
        refine r_iconst hx hb dX5_takeSign_73 ?_
        exact k_zret (wq_X τ ad) hx hb hr hlk hw hM (by decide) (by decide) hv dX5_takeSign_74
  refine lv_aload_n hx hb dX5_takeSign_0 rfl (lv_at hl 1 rfl) ?_
  refine k_cVi (wq_X τ ad) hx hb hml hC hLS hA hw hl.1 (mX9_look l D τ ad sA sV _   M hM _ hv) kX9_look ml_X5_72 rfl (gX_156 τ ad M) rfl rfl (Nat.le_of_ble_eq_true rfl) (rm_ok (by decide) (by decide)) ⟨Nat.zero_le _, Nat.zero_le _⟩ dX5_takeSign_1 (fun x1 M1 H locs g1 hM hv hw => ?_)
  have hv := hv g1
  refine lv_istore_n (lv' := [(3, .int (iI x1)), (0, .ref (ad 185)), (1, .ref (ad 156)), (2, .ref (ad k2))]) hx hb dX5_takeSign_4 rfl hl (by decide) rfl (fun ls hl => ?_)
  refine lv_iload_n hx hb dX5_takeSign_5 rfl (lv_at hl 0 rfl) ?_
  refine k_cSi (wq_X τ ad) hx hb hml hC hLS hA hw hl.1 (mX5_bindingOf l D τ ad sA sV _ x1 g1 M1 hM _ hv) kX5_bindingOf ml_X5_92 rfl rfl (Nat.le_of_ble_eq_true rfl) (rm_ok (by decide) (by decide)) ⟨Nat.zero_le _, Nat.zero_le _⟩ dX5_takeSign_6 (fun x2 M2 H locs g2 hM hv hw => ?_)
  have hv := hv g2
  refine lv_istore (lv' := [(4, .int (iI x2)), (3, .int (iI x1)), (0, .ref (ad 185)), (1, .ref (ad 156)), (2, .ref (ad k2))]) hx hb dX5_takeSign_9 hl (by decide) rfl (fun ls hl => ?_)
  refine lv_iload_n hx hb dX5_takeSign_11 rfl (lv_at hl 1 rfl) ?_
  refine r_bipush hx hb dX5_takeSign_12 (by decide +kernel) ?_
  refine r_icmp_ne (tgt := 53) hx hb dX5_takeSign_14 (by decide) g1 (by decide) (fun b3 => ?_) (fun b3 => ?_)
  · have hv := hv.1 b3
    exact J53 x1 x2 M2 _ _ _ hM hv hw (lv_sub hl [2, 3, 4, 1, 0] rfl)
  · have hv := hv.2 b3
    refine lv_aload_n hx hb dX5_takeSign_17 rfl (lv_at hl 2 rfl) ?_
    refine gf_X5_19 hx hb hC hw 185 (gX_185 τ ad M2) rfl dX5_takeSign_18 ?_
    refine r_top (fun x18 e18 => ?_)
    have g18 : iR x18 := by rw [e18]; exact hM.get (by decide) _
    have hv := hv x18 e18 g18
    refine r_if_le (tgt := 53) hx hb dX5_takeSign_21 (by decide) g18  (fun b19 => ?_) (fun b19 => ?_)
    · have hv := hv.1 b19
      exact J53 x1 x2 M2 _ _ _ hM hv hw (lv_sub hl [2, 3, 4, 1, 0] rfl)
    · have hv := hv.2 b19
      refine lv_aload_n hx hb dX5_takeSign_24 rfl (lv_at hl 2 rfl) ?_
      refine lv_aload_n hx hb dX5_takeSign_25 rfl (lv_at hl 4 rfl) ?_
      refine r_iconst hx hb dX5_takeSign_26 ?_
      refine k_cVv (wq_X τ ad) hx hb hml hC hLS hA hw hl.1 (mX5_release l D τ ad sA sV _ k2 1 hk2 (by decide) M2 hM _ hv) kX5_release ml_X5_60 rfl (gX_185 τ ad M2) rfl rfl (Nat.le_of_ble_eq_true rfl) (rm_ok (by decide) (by decide)) ⟨Nat.zero_le _, Nat.zero_le _⟩ dX5_takeSign_27 (fun M20 H locs hM hv hw => ?_)
      refine lv_aload_n hx hb dX5_takeSign_30 rfl (lv_at hl 2 rfl) ?_
      refine lv_dup hx hb dX5_takeSign_31 rfl ?_
      refine gf_X5_15 hx hb hC hw 185 (gX_185 τ ad M20) rfl dX5_takeSign_32 ?_
      refine r_top (fun x21 e21 => ?_)
      have g21 : iR x21 := by rw [e21]; exact hM.get (by decide) _
      have hv := hv x21 e21 g21
      refine r_iconst hx hb dX5_takeSign_35 ?_
      refine r_isub (z := (x21 - 1)) hx hb dX5_takeSign_36 rfl ?_
      obtain ⟨c22, hv⟩ := hv
      obtain ⟨M23, e23⟩ : ∃ M23 : Mem, M23 = up2 M20 185 1 (x21 - 1) := ⟨_, rfl⟩
      have hv := hv M23 e23
      refine pf_X5_15 (ws' := (WX τ ad M23)) hx hb hC hw 185 (gX_185 τ ad M20) (Nat.le_of_ble_eq_true rfl) (by rw [e23]; exact sX_185_1 τ ad M20 _) dX5_takeSign_37 (fun H locs hw => ?_)
      have hM : MR M23 := by rw [e23]; exact hM.put (by decide) c22
      refine lv_aload_n hx hb dX5_takeSign_40 rfl (lv_at hl 2 rfl) ?_
      refine lv_dup hx hb dX5_takeSign_41 rfl ?_
      refine gf_X5_19 hx hb hC hw 185 (gX_185 τ ad M23) rfl dX5_takeSign_42 ?_
      refine r_top (fun x24 e24 => ?_)
      have g24 : iR x24 := by rw [e24]; exact hM.get (by decide) _
      have hv := hv x24 e24 g24
      refine r_iconst hx hb dX5_takeSign_45 ?_
      refine r_isub (z := (x24 - 1)) hx hb dX5_takeSign_46 rfl ?_
      obtain ⟨c25, hv⟩ := hv
      obtain ⟨M26, e26⟩ : ∃ M26 : Mem, M26 = up2 M23 185 2 (x24 - 1) := ⟨_, rfl⟩
      have hv := hv M26 e26
      refine pf_X5_19 (ws' := (WX τ ad M26)) hx hb hC hw 185 (gX_185 τ ad M23) (Nat.le_of_ble_eq_true rfl) (by rw [e26]; exact sX_185_2 τ ad M23 _) dX5_takeSign_47 (fun H locs hw => ?_)
      have hM : MR M26 := by rw [e26]; exact hM.put (by decide) c25
      refine lv_goto (tgt := 116) hx hb dX5_takeSign_50 (by decide) ?_
      exact J116  M26 _ _ _ hM hv hw (lv_sub hl [3] rfl)
set_option maxHeartbeats 4000000 in
set_option maxRecDepth 100000 in
theorem mX5_takeThing (l : Launch) (D : va_G) (τ : Nat → ClassId) (ad : Nat → Nat) (sA sV : Nat → Nat) (sz : Nat) (k2 : Nat) (hk2 : isL k2) (M : Mem) (hM : MR M) (Q : Int → Mem → Prop) (hv : qX5_takeThing k2 M Q) : Met l yX5_takeThing (lw_w yX5_takeThing cX5_takeThing 6 (some .boolean)) (rmk 6 0 0) (kPc D τ sA sV (WX τ ad M) sz [.ref (ad 185), .ref (ad 156), .ref (ad k2)]) (gQi D (EQz (WX τ ad) MR Q) (va_A (WX τ ad M) sz)) 0 0 (va_A (WX τ ad M) sz) := by
  refine k_met (ret := (some .boolean)) (Qc := gQi D (EQz (WX τ ad) MR Q)) (by decide +kernel) (Nat.le_of_ble_eq_true rfl) ?_
  intro p e s m args below meth c A ls hx hb hml hr hlk hnm hC hLS hA hw hl
  have hC : cx D τ s m args RX5 := hC
  have hl : lv_has ls 6 [(0, .ref (ad 185)), (1, .ref (ad 156)), (2, .ref (ad k2))] := hl
  unfold qX5_takeThing at hv
  have J121 : ∀  (M : Mem) (H : Heap) (locs : List Loc) (ls : Array Slot), MR M → qX5_takeThing_J121 k2 Q  M → wS D A s.heap (WX τ ad M) H locs → lv_has ls 6 [(1, .ref (ad 156))] → W p l e (rmk 6 0 0) s m args below meth c H locs 0 0 (MQ below (gQi D (EQz (WX τ ad) MR Q) A) args s 0 0 A) (F0 m 121 ls []) := by
    intro  M H locs ls hM hv hw hl
    unfold qX5_takeThing_J121 at hv
    refine lv_aload_n hx hb dX5_takeThing_121 rfl (lv_at hl 0 rfl) ?_
    refine k_cVv (wq_X τ ad) hx hb hml hC hLS hA hw hl.1 (mX9_pass l D τ ad sA sV _   M hM _ hv) kX9_pass ml_X5_89 rfl (gX_156 τ ad M) rfl rfl (Nat.le_of_ble_eq_true rfl) (rm_ok (by decide) (by decide)) ⟨Nat.zero_le _, Nat.zero_le _⟩ dX5_takeThing_122 (fun M15 H locs hM hv hw => ?_)
    refine r_iconst hx hb dX5_takeThing_125 ?_
    exact k_zret (wq_X τ ad) hx hb hr hlk hw hM (by decide) (by decide) hv dX5_takeThing_126
  have J101 : ∀ (t0 : Int) (M : Mem) (H : Heap) (locs : List Loc) (ls : Array Slot), MR M → qX5_takeThing_J101 k2 Q t0 M → wS D A s.heap (WX τ ad M) H locs → lv_has ls 6 [(0, .ref (ad 185)), (1, .ref (ad 156)), (2, .ref (ad k2))] → W p l e (rmk 6 0 0) s m args below meth c H locs 0 0 (MQ below (gQi D (EQz (WX τ ad) MR Q) A) args s 0 0 A) (F0 m 101 ls [.int (iI t0)]) := by
    intro t0 M H locs ls hM hv hw hl
    unfold qX5_takeThing_J101 at hv
    refine lv_istore (lv' := [(5, .int (iI t0)), (0, .ref (ad 185)), (1, .ref (ad 156)), (2, .ref (ad k2))]) hx hb dX5_takeThing_101 hl (by decide) rfl (fun ls hl => ?_)
    refine lv_iload hx hb dX5_takeThing_103 (lv_at hl 0 rfl) ?_
    obtain ⟨c11, hv⟩ := hv
    refine r_if_ge (tgt := 110) hx hb dX5_takeThing_105 (by decide) c11  (fun b12 => ?_) (fun b12 => ?_)
    · have hv := hv.1 b12
      refine lv_aload_n hx hb dX5_takeThing_110 rfl (lv_at hl 3 rfl) ?_
      refine lv_iload hx hb dX5_takeThing_111 (lv_at hl 0 rfl) ?_
      refine k_cVv (wq_X τ ad) hx hb hml hC hLS hA hw hl.1 (mX2_addLetter l D τ ad sA sV _ k2 t0 hk2 c11 M hM _ hv) kX2_addLetter ml_X5_86 rfl (gL_X hk2 τ ad M) rfl rfl (Nat.le_of_ble_eq_true rfl) (rm_ok (by decide) (by decide)) ⟨Nat.zero_le _, Nat.zero_le _⟩ dX5_takeThing_113 (fun M13 H locs hM hv hw => ?_)
      refine lv_aload_n hx hb dX5_takeThing_116 rfl (lv_at hl 1 rfl) ?_
      refine r_iconst hx hb dX5_takeThing_117 ?_
      obtain ⟨M14, e14⟩ : ∃ M14 : Mem, M14 = up2 M13 185 3 0 := ⟨_, rfl⟩
      have hv := hv M14 e14
      refine pf_X5_22 (ws' := (WX τ ad M14)) hx hb hC hw 185 (by decide) (gX_185 τ ad M13) (Nat.le_of_ble_eq_true rfl) (by rw [e14]; exact sX_185_3 τ ad M13 _) dX5_takeThing_118 (fun H locs hw => ?_)
      have hM : MR M14 := by rw [e14]; exact hM.put (by decide) (by decide)
      exact J121  M14 _ _ _ hM hv hw (lv_sub hl [2] rfl)
    · have hv := hv.2 b12
      refine r_iconst hx hb dX5_takeThing_108 ?_
      exact k_zret (wq_X τ ad) hx hb hr hlk hw hM (by decide) (by decide) hv dX5_takeThing_109
  have J83 : ∀ (v4 : Int) (M : Mem) (H : Heap) (locs : List Loc) (ls : Array Slot), MR M → qX5_takeThing_J83 k2 Q v4 M → wS D A s.heap (WX τ ad M) H locs → lv_has ls 6 [(0, .ref (ad 185)), (1, .ref (ad 156)), (2, .ref (ad k2)), (4, .int (iI v4))] → W p l e (rmk 6 0 0) s m args below meth c H locs 0 0 (MQ below (gQi D (EQz (WX τ ad) MR Q) A) args s 0 0 A) (F0 m 83 ls []) := by
    intro v4 M H locs ls hM hv hw hl
    unfold qX5_takeThing_J83 at hv
    refine lv_iload hx hb dX5_takeThing_83 (lv_at hl 3 rfl) ?_
    refine r_iconst hx hb dX5_takeThing_85 ?_
    obtain ⟨c6, hv⟩ := hv
    refine r_icmp_ne (tgt := 93) hx hb dX5_takeThing_86 (by decide) c6 (by decide) (fun b7 => ?_) (fun b7 => ?_)
    · have hv := hv.1 b7
      refine va_ldcS hx hb hC.2.1 (hLS.str_0) dX5_takeThing_93 ?_
      refine lv_iload hx hb dX5_takeThing_95 (lv_at hl 3 rfl) ?_
      obtain ⟨c8, hv⟩ := hv
      obtain ⟨c9, hv⟩ := hv
      refine r_i2c hx hb dX5_takeThing_97 c8 c9 ?_
      refine k_indexOf (wq_X τ ad) hx hb hml hC hLS hA hw hl.1 (hLS.1 0 (by decide)).2 c8 c9 ml_X5_81 (Nat.le_of_ble_eq_true rfl) (rm_ok (lev := 4) (by decide) (by decide)) ⟨Nat.zero_le _, Nat.zero_le _⟩ dX5_takeThing_98 (fun x10 H locs e10 g10 hw => ?_)
      have hv := hv x10 e10 g10
      exact J101 x10 M _ _ _ hM hv hw (lv_sub hl [0, 1, 2] rfl)
    · have hv := hv.2 b7
      refine r_iconst hx hb dX5_takeThing_89 ?_
      refine lv_goto (tgt := 101) hx hb dX5_takeThing_90 (by decide) ?_
      exact J101 (-1) M _ _ _ hM hv hw (lv_sub hl [0, 1, 2] rfl)
  refine lv_aload_n hx hb dX5_takeThing_0 rfl (lv_at hl 1 rfl) ?_
  refine r_iconst hx hb dX5_takeThing_1 ?_
  refine k_cVi (wq_X τ ad) hx hb hml hC hLS hA hw hl.1 (mX9_number l D τ ad sA sV _ 3 (by decide) M hM _ hv) kX9_number ml_X5_64 rfl (gX_156 τ ad M) rfl rfl (Nat.le_of_ble_eq_true rfl) (rm_ok (by decide) (by decide)) ⟨Nat.zero_le _, Nat.zero_le _⟩ dX5_takeThing_2 (fun x1 M1 H locs g1 hM hv hw => ?_)
  have hv := hv g1
  refine lv_istore_n (lv' := [(3, .int (iI x1)), (0, .ref (ad 185)), (1, .ref (ad 156)), (2, .ref (ad k2))]) hx hb dX5_takeThing_5 rfl hl (by decide) rfl (fun ls hl => ?_)
  refine lv_iload_n hx hb dX5_takeThing_6 rfl (lv_at hl 0 rfl) ?_
  refine r_iconst hx hb dX5_takeThing_7 ?_
  refine r_icmp_eq (tgt := 26) hx hb dX5_takeThing_8 (by decide) g1 (by decide) (fun b2 => ?_) (fun b2 => ?_)
  · have hv := hv.1 b2
    refine lv_aload_n hx hb dX5_takeThing_26 rfl (lv_at hl 2 rfl) ?_
    refine k_cVi (wq_X τ ad) hx hb hml hC hLS hA hw hl.1 (mX9_look l D τ ad sA sV _   M1 hM _ hv) kX9_look ml_X5_72 rfl (gX_156 τ ad M1) rfl rfl (Nat.le_of_ble_eq_true rfl) (rm_ok (by decide) (by decide)) ⟨Nat.zero_le _, Nat.zero_le _⟩ dX5_takeThing_27 (fun x3 M3 H locs g3 hM hv hw => ?_)
    have hv := hv g3
    refine lv_istore (lv' := [(4, .int (iI x3)), (3, .int (iI x1)), (0, .ref (ad 185)), (1, .ref (ad 156)), (2, .ref (ad k2))]) hx hb dX5_takeThing_30 hl (by decide) rfl (fun ls hl => ?_)
    refine lv_iload hx hb dX5_takeThing_32 (lv_at hl 0 rfl) ?_
    refine r_bipush hx hb dX5_takeThing_34 (by decide +kernel) ?_
    refine r_icmp_ne (tgt := 49) hx hb dX5_takeThing_36 (by decide) g3 (by decide) (fun b4 => ?_) (fun b4 => ?_)
    · have hv := hv.1 b4
      refine lv_iload hx hb dX5_takeThing_49 (lv_at hl 0 rfl) ?_
      refine r_bipush hx hb dX5_takeThing_51 (by decide +kernel) ?_
      refine r_icmp_ne (tgt := 83) hx hb dX5_takeThing_53 (by decide) g3 (by decide) (fun b5 => ?_) (fun b5 => ?_)
      · have hv := hv.1 b5
        exact J83 x3 M3 _ _ _ hM hv hw (lv_sub hl [2, 3, 4, 0] rfl)
      · have hv := hv.2 b5
        refine lv_aload_n hx hb dX5_takeThing_56 rfl (lv_at hl 2 rfl) ?_
        refine gf_X5_19 hx hb hC hw 185 (gX_185 τ ad M3) rfl dX5_takeThing_57 ?_
        refine r_top (fun x16 e16 => ?_)
        have g16 : iR x16 := by rw [e16]; exact hM.get (by decide) _
        have hv := hv x16 e16 g16
        refine r_iconst hx hb dX5_takeThing_60 ?_
        refine r_icmp_ge (tgt := 83) hx hb dX5_takeThing_61 (by decide) g16 (by decide) (fun b17 => ?_) (fun b17 => ?_)
        · have hv := hv.1 b17
          exact J83 x3 M3 _ _ _ hM hv hw (lv_sub hl [2, 3, 4, 0] rfl)
        · have hv := hv.2 b17
          refine lv_aload_n hx hb dX5_takeThing_64 rfl (lv_at hl 2 rfl) ?_
          refine lv_dup hx hb dX5_takeThing_65 rfl ?_
          refine gf_X5_19 hx hb hC hw 185 (gX_185 τ ad M3) rfl dX5_takeThing_66 ?_
          refine r_top (fun x18 e18 => ?_)
          have g18 : iR x18 := by rw [e18]; exact hM.get (by decide) _
          have hv := hv x18 e18 g18
          refine r_iconst hx hb dX5_takeThing_69 ?_
          refine r_iadd (z := (x18 + 1)) hx hb dX5_takeThing_70 rfl ?_
          obtain ⟨c19, hv⟩ := hv
          obtain ⟨M20, e20⟩ : ∃ M20 : Mem, M20 = up2 M3 185 2 (x18 + 1) := ⟨_, rfl⟩
          have hv := hv M20 e20
          refine pf_X5_19 (ws' := (WX τ ad M20)) hx hb hC hw 185 (gX_185 τ ad M3) (Nat.le_of_ble_eq_true rfl) (by rw [e20]; exact sX_185_2 τ ad M3 _) dX5_takeThing_71 (fun H locs hw => ?_)
          have hM : MR M20 := by rw [e20]; exact hM.put (by decide) c19
          refine lv_aload_n hx hb dX5_takeThing_74 rfl (lv_at hl 2 rfl) ?_
          refine lv_iload hx hb dX5_takeThing_75 (lv_at hl 0 rfl) ?_
          refine k_cVv (wq_X τ ad) hx hb hml hC hLS hA hw hl.1 (mX5_hold l D τ ad sA sV _ x3 g3 M20 hM _ hv) kX5_hold ml_X5_76 rfl (gX_185 τ ad M20) rfl rfl (Nat.le_of_ble_eq_true rfl) (rm_ok (by decide) (by decide)) ⟨Nat.zero_le _, Nat.zero_le _⟩ dX5_takeThing_77 (fun M21 H locs hM hv hw => ?_)
          refine lv_goto (tgt := 121) hx hb dX5_takeThing_80 (by decide) ?_
          exact J121  M21 _ _ _ hM hv hw (lv_sub hl [3] rfl)
    · have hv := hv.2 b4
      refine lv_aload_n hx hb dX5_takeThing_39 rfl (lv_at hl 2 rfl) ?_
      refine r_sipush hx hb dX5_takeThing_40 (by decide +kernel) ?_
      refine k_cVv (wq_X τ ad) hx hb hml hC hLS hA hw hl.1 (mX5_hold l D τ ad sA sV _ 302 (by decide) M3 hM _ hv) kX5_hold ml_X5_76 rfl (gX_185 τ ad M3) rfl rfl (Nat.le_of_ble_eq_true rfl) (rm_ok (by decide) (by decide)) ⟨Nat.zero_le _, Nat.zero_le _⟩ dX5_takeThing_43 (fun M22 H locs hM hv hw => ?_)
      refine lv_goto (tgt := 121) hx hb dX5_takeThing_46 (by decide) ?_
      exact J121  M22 _ _ _ hM hv hw (lv_sub hl [3] rfl)
  · have hv := hv.2 b2
    refine lv_aload_n hx hb dX5_takeThing_11 rfl (lv_at hl 3 rfl) ?_
    refine r_sipush hx hb dX5_takeThing_12 (by decide +kernel) ?_
    refine lv_iload_n hx hb dX5_takeThing_15 rfl (lv_at hl 0 rfl) ?_
    refine k_cVv (wq_X τ ad) hx hb hml hC hLS hA hw hl.1 (mX2_add l D τ ad sA sV _ k2 300 x1 hk2 (by decide) g1 M1 hM _ hv) kX2_add ml_X5_68 rfl (gL_X hk2 τ ad M1) rfl rfl (Nat.le_of_ble_eq_true rfl) (rm_ok (by decide) (by decide)) ⟨Nat.zero_le _, Nat.zero_le _⟩ dX5_takeThing_16 (fun M23 H locs hM hv hw => ?_)
    refine lv_aload_n hx hb dX5_takeThing_19 rfl (lv_at hl 1 rfl) ?_
    refine r_iconst hx hb dX5_takeThing_20 ?_
    obtain ⟨M24, e24⟩ : ∃ M24 : Mem, M24 = up2 M23 185 3 0 := ⟨_, rfl⟩
    have hv := hv M24 e24
    refine pf_X5_22 (ws' := (WX τ ad M24)) hx hb hC hw 185 (by decide) (gX_185 τ ad M23) (Nat.le_of_ble_eq_true rfl) (by rw [e24]; exact sX_185_3 τ ad M23 _) dX5_takeThing_21 (fun H locs hw => ?_)
    have hM : MR M24 := by rw [e24]; exact hM.put (by decide) (by decide)
    refine r_iconst hx hb dX5_takeThing_24 ?_
    exact k_zret (wq_X τ ad) hx hb hr hlk hw hM (by decide) (by decide) hv dX5_takeThing_25
set_option maxHeartbeats 4000000 in
set_option maxRecDepth 100000 in
theorem mX9_isRead (l : Launch) (D : va_G) (τ : Nat → ClassId) (ad : Nat → Nat) (sA sV : Nat → Nat) (sz : Nat)   (M : Mem) (hM : MR M) (Q : Int → Mem → Prop) (hv : qX9_isRead  M Q) : Met l yX9_isRead (lw_w yX9_isRead cX9_isRead 1 (some .boolean)) (rmk 1 0 0) (kPc D τ sA sV (WX τ ad M) sz [.ref (ad 156)]) (gQi D (EQz (WX τ ad) MR Q) (va_A (WX τ ad M) sz)) 0 0 (va_A (WX τ ad M) sz) := by
  refine k_met (ret := (some .boolean)) (Qc := gQi D (EQz (WX τ ad) MR Q)) (by decide +kernel) (Nat.le_of_ble_eq_true rfl) ?_
  intro p e s m args below meth c A ls hx hb hml hr hlk hnm hC hLS hA hw hl
  have hC : cx D τ s m args RX9 := hC
  have hl : lv_has ls 1 [(0, .ref (ad 156))] := hl
  unfold qX9_isRead at hv
  refine lv_aload_n hx hb dX9_isRead_0 rfl (lv_at hl 0 rfl) ?_
  refine gf_X9_19 hx hb hC hw 156 (gX_156 τ ad M) rfl dX9_isRead_1 ?_
  refine r_top (fun x1 e1 => ?_)
  have g1 : iR x1 := by rw [e1]; exact hM.get (by decide) _
  have hv := hv x1 e1 g1
  refine lv_aload_n hx hb dX9_isRead_4 rfl (lv_at hl 0 rfl) ?_
  refine gf_X9_22 hx hb hC hw 156 (gX_156 τ ad M) rfl dX9_isRead_5 ?_
  refine r_top (fun x2 e2 => ?_)
  have g2 : iR x2 := by rw [e2]; exact hM.get (by decide) _
  have hv := hv x2 e2 g2
  refine r_icmp_lt (tgt := 15) hx hb dX9_isRead_8 (by decide) g1 g2 (fun b3 => ?_) (fun b3 => ?_)
  · have hv := hv.1 b3
    refine r_iconst hx hb dX9_isRead_15 ?_
    exact k_zret (wq_X τ ad) hx hb hr hlk hw hM (by decide) (by decide) hv dX9_isRead_16
  · have hv := hv.2 b3
    refine r_iconst hx hb dX9_isRead_11 ?_
    refine lv_goto (tgt := 16) hx hb dX9_isRead_12 (by decide) ?_
    exact k_zret (wq_X τ ad) hx hb hr hlk hw hM (by decide) (by decide) hv dX9_isRead_16
set_option maxHeartbeats 4000000 in
set_option maxRecDepth 100000 in
theorem mX5_read (l : Launch) (D : va_G) (τ : Nat → ClassId) (ad : Nat → Nat) (sA sV : Nat → Nat) (sz : Nat) (k2 : Nat) (hk2 : isL k2) (M : Mem) (hM : MR M) (Q : Int → Mem → Prop) (hv : qX5_read k2 M Q) : Met l yX5_read (lw_w yX5_read cX5_read 4 (some .int)) (rmk 7 0 0) (kPc D τ sA sV (WX τ ad M) sz [.ref (ad 185), .ref (ad 156), .ref (ad k2)]) (gQi D (EQi (WX τ ad) MR Q) (va_A (WX τ ad M) sz)) 0 0 (va_A (WX τ ad M) sz) := by
  refine k_met (ret := (some .int)) (Qc := gQi D (EQi (WX τ ad) MR Q)) (by decide +kernel) (Nat.le_of_ble_eq_true rfl) ?_
  intro p e s m args below meth c A ls hx hb hml hr hlk hnm hC hLS hA hw hl
  have hC : cx D τ s m args RX5 := hC
  have hl : lv_has ls 4 [(0, .ref (ad 185)), (1, .ref (ad 156)), (2, .ref (ad k2))] := hl
  unfold qX5_read at hv
  have L40 : ∀ (X92 : Mem → Prop), (∀  (M : Mem) (H : Heap) (locs : List Loc) (ls : Array Slot), MR M → X92  M → wS D A s.heap (WX τ ad M) H locs → lv_has ls 4 [(0, .ref (ad 185)), (1, .ref (ad 156)), (2, .ref (ad k2))] → W p l e (rmk 7 0 0) s m args below meth c H locs 0 0 (MQ below (gQi D (EQi (WX τ ad) MR Q) A) args s 0 0 A) (F0 m 92 ls [])) → ∀ (n : Nat) (v3 : Int) (M : Mem) (H : Heap) (locs : List Loc) (ls : Array Slot), MR M → qX5_read_L40 k2 X92 Q n v3 M → wS D A s.heap (WX τ ad M) H locs → lv_has ls 4 [(0, .ref (ad 185)), (1, .ref (ad 156)), (2, .ref (ad k2)), (3, .int (iI v3))] → W p l e (rmk 7 0 0) s m args below meth c H locs 0 0 (MQ below (gQi D (EQi (WX τ ad) MR Q) A) args s 0 0 A) (F0 m 40 ls []) := by
    intro X92 hX92 n
    induction n with
    | zero => intro v3 M H locs ls hM hv; rw [qX5_read_L40] at hv; exact hv.elim
    | succ n ih =>
      intro v3 M H locs ls hM hv hw hl
      rw [qX5_read_L40] at hv
      refine lv_iload_n hx hb dX5_read_40 rfl (lv_at hl 3 rfl) ?_
      refine r_bipush hx hb dX5_read_41 (by decide +kernel) ?_
      obtain ⟨c8, hv⟩ := hv
      refine r_icmp_ge (tgt := 92) hx hb dX5_read_43 (by decide) c8 (by decide) (fun b9 => ?_) (fun b9 => ?_)
      · have hv := hv.1 b9
        exact hX92  M _ _ _ hM hv hw (lv_sub hl [0, 1, 2] rfl)
      · have hv := hv.2 b9
        refine lv_aload_n hx hb dX5_read_46 rfl (lv_at hl 1 rfl) ?_
        refine k_cVz (wq_X τ ad) hx hb hml hC hLS hA hw hl.1 (mX9_isRead l D τ ad sA sV _   M hM _ hv) kX9_isRead ml_X5_44 rfl (gX_156 τ ad M) rfl rfl (Nat.le_of_ble_eq_true rfl) (rm_ok (by decide) (by decide)) ⟨Nat.zero_le _, Nat.zero_le _⟩ dX5_read_47 (fun x10 M10 H locs g10 z10 hM hv hw => ?_)
        have hv := hv g10 z10
        refine r_if_ne (tgt := 92) hx hb dX5_read_50 (by decide) g10  (fun b11 => ?_) (fun b11 => ?_)
        · have hv := hv.1 b11
          exact hX92  M10 _ _ _ hM hv hw (lv_sub hl [0, 1, 2] rfl)
        · have hv := hv.2 b11
          refine lv_aload_n hx hb dX5_read_53 rfl (lv_at hl 0 rfl) ?_
          refine gf_X5_22 hx hb hC hw 185 (gX_185 τ ad M10) rfl dX5_read_54 ?_
          refine r_top (fun x12 e12 => ?_)
          have g12 : iR x12 := by rw [e12]; exact hM.get (by decide) _
          have hv := hv x12 e12 g12
          refine r_if_eq (tgt := 72) hx hb dX5_read_57 (by decide) g12  (fun b13 => ?_) (fun b13 => ?_)
          · have hv := hv.1 b13
            refine lv_aload_n hx hb dX5_read_72 rfl (lv_at hl 0 rfl) ?_
            refine lv_aload_n hx hb dX5_read_73 rfl (lv_at hl 1 rfl) ?_
            refine lv_aload_n hx hb dX5_read_74 rfl (lv_at hl 2 rfl) ?_
            refine k_cVz (wq_X τ ad) hx hb hml hC hLS hA hw hl.1 (mX5_takeSign l D τ ad sA sV _ k2 hk2 M10 hM _ hv) kX5_takeSign ml_X5_51 rfl (gX_185 τ ad M10) rfl rfl (Nat.le_of_ble_eq_true rfl) (rm_ok (by decide) (by decide)) ⟨Nat.zero_le _, Nat.zero_le _⟩ dX5_read_75 (fun x14 M14 H locs g14 z14 hM hv hw => ?_)
            have hv := hv g14 z14
            refine r_if_ne (tgt := 86) hx hb dX5_read_78 (by decide) g14  (fun b15 => ?_) (fun b15 => ?_)
            · have hv := hv.1 b15
              refine r_iinc (v := (v3 + 1)) (lv' := [(3, .int (iI (v3 + 1))), (0, .ref (ad 185)), (1, .ref (ad 156)), (2, .ref (ad k2))]) hx hb dX5_read_86 hl (k := 3) rfl rfl (by decide) rfl (fun ls hl => ?_)
              refine lv_goto (tgt := 40) hx hb dX5_read_89 (by decide) ?_
              exact ih (v3 + 1) M14 _ _ _ hM hv hw (lv_sub hl [1, 2, 3, 0] rfl)
            · have hv := hv.2 b15
              refine lv_aload_n hx hb dX5_read_81 rfl (lv_at hl 1 rfl) ?_
              refine gf_X5_54 hx hb hC hw 156 (gX_156 τ ad M14) rfl dX5_read_82 ?_
              refine r_top (fun x16 e16 => ?_)
              have g16 : iR x16 := by rw [e16]; exact hM.get (by decide) _
              have hv := hv x16 e16 g16
              exact k_iret (wq_X τ ad) hx hb hr hlk hw hM g16 hv dX5_read_85
          · have hv := hv.2 b13
            refine lv_aload_n hx hb dX5_read_60 rfl (lv_at hl 0 rfl) ?_
            refine lv_aload_n hx hb dX5_read_61 rfl (lv_at hl 1 rfl) ?_
            refine lv_aload_n hx hb dX5_read_62 rfl (lv_at hl 2 rfl) ?_
            refine k_cVz (wq_X τ ad) hx hb hml hC hLS hA hw hl.1 (mX5_takeThing l D τ ad sA sV _ k2 hk2 M10 hM _ hv) kX5_takeThing ml_X5_47 rfl (gX_185 τ ad M10) rfl rfl (Nat.le_of_ble_eq_true rfl) (rm_ok (by decide) (by decide)) ⟨Nat.zero_le _, Nat.zero_le _⟩ dX5_read_63 (fun x17 M17 H locs g17 z17 hM hv hw => ?_)
            have hv := hv g17 z17
            refine r_if_eq (tgt := 81) hx hb dX5_read_66 (by decide) g17  (fun b18 => ?_) (fun b18 => ?_)
            · have hv := hv.1 b18
              refine lv_aload_n hx hb dX5_read_81 rfl (lv_at hl 1 rfl) ?_
              refine gf_X5_54 hx hb hC hw 156 (gX_156 τ ad M17) rfl dX5_read_82 ?_
              refine r_top (fun x19 e19 => ?_)
              have g19 : iR x19 := by rw [e19]; exact hM.get (by decide) _
              have hv := hv x19 e19 g19
              exact k_iret (wq_X τ ad) hx hb hr hlk hw hM g19 hv dX5_read_85
            · have hv := hv.2 b18
              refine lv_goto (tgt := 86) hx hb dX5_read_69 (by decide) ?_
              refine r_iinc (v := (v3 + 1)) (lv' := [(3, .int (iI (v3 + 1))), (0, .ref (ad 185)), (1, .ref (ad 156)), (2, .ref (ad k2))]) hx hb dX5_read_86 hl (k := 3) rfl rfl (by decide) rfl (fun ls hl => ?_)
              refine lv_goto (tgt := 40) hx hb dX5_read_89 (by decide) ?_
              exact ih (v3 + 1) M17 _ _ _ hM hv hw (lv_sub hl [1, 2, 3, 0] rfl)
  have J92 : ∀  (M : Mem) (H : Heap) (locs : List Loc) (ls : Array Slot), MR M → qX5_read_J92 k2 Q  M → wS D A s.heap (WX τ ad M) H locs → lv_has ls 4 [(0, .ref (ad 185)), (1, .ref (ad 156)), (2, .ref (ad k2))] → W p l e (rmk 7 0 0) s m args below meth c H locs 0 0 (MQ below (gQi D (EQi (WX τ ad) MR Q) A) args s 0 0 A) (F0 m 92 ls []) := by
    intro  M H locs ls hM hv hw hl
    unfold qX5_read_J92 at hv
    refine lv_aload_n hx hb dX5_read_92 rfl (lv_at hl 0 rfl) ?_
    refine gf_X5_22 hx hb hC hw 185 (gX_185 τ ad M) rfl dX5_read_93 ?_
    refine r_top (fun x21 e21 => ?_)
    have g21 : iR x21 := by rw [e21]; exact hM.get (by decide) _
    have hv := hv x21 e21 g21
    refine r_if_ne (tgt := 113) hx hb dX5_read_96 (by decide) g21  (fun b22 => ?_) (fun b22 => ?_)
    · have hv := hv.1 b22
      refine lv_aload_n hx hb dX5_read_113 rfl (lv_at hl 1 rfl) ?_
      refine gf_X5_54 hx hb hC hw 156 (gX_156 τ ad M) rfl dX5_read_114 ?_
      refine r_top (fun x23 e23 => ?_)
      have g23 : iR x23 := by rw [e23]; exact hM.get (by decide) _
      have hv := hv x23 e23 g23
      exact k_iret (wq_X τ ad) hx hb hr hlk hw hM g23 hv dX5_read_117
    · have hv := hv.2 b22
      refine lv_aload_n hx hb dX5_read_99 rfl (lv_at hl 0 rfl) ?_
      refine gf_X5_19 hx hb hC hw 185 (gX_185 τ ad M) rfl dX5_read_100 ?_
      refine r_top (fun x24 e24 => ?_)
      have g24 : iR x24 := by rw [e24]; exact hM.get (by decide) _
      have hv := hv x24 e24 g24
      refine r_if_gt (tgt := 113) hx hb dX5_read_103 (by decide) g24  (fun b25 => ?_) (fun b25 => ?_)
      · have hv := hv.1 b25
        refine lv_aload_n hx hb dX5_read_113 rfl (lv_at hl 1 rfl) ?_
        refine gf_X5_54 hx hb hC hw 156 (gX_156 τ ad M) rfl dX5_read_114 ?_
        refine r_top (fun x26 e26 => ?_)
        have g26 : iR x26 := by rw [e26]; exact hM.get (by decide) _
        have hv := hv x26 e26 g26
        exact k_iret (wq_X τ ad) hx hb hr hlk hw hM g26 hv dX5_read_117
      · have hv := hv.2 b25
        refine lv_aload_n hx hb dX5_read_106 rfl (lv_at hl 1 rfl) ?_
        refine k_cVz (wq_X τ ad) hx hb hml hC hLS hA hw hl.1 (mX9_isWhole l D τ ad sA sV _   M hM _ hv) kX9_isWhole ml_X5_57 rfl (gX_156 τ ad M) rfl rfl (Nat.le_of_ble_eq_true rfl) (rm_ok (by decide) (by decide)) ⟨Nat.zero_le _, Nat.zero_le _⟩ dX5_read_107 (fun x27 M27 H locs g27 z27 hM hv hw => ?_)
        have hv := hv g27 z27
        refine r_if_ne (tgt := 118) hx hb dX5_read_110 (by decide) g27  (fun b28 => ?_) (fun b28 => ?_)
        · have hv := hv.1 b28
          refine lv_aload_n hx hb dX5_read_118 rfl (lv_at hl 0 rfl) ?_
          refine lv_aload_n hx hb dX5_read_119 rfl (lv_at hl 2 rfl) ?_
          refine r_iconst hx hb dX5_read_120 ?_
          refine k_cVv (wq_X τ ad) hx hb hml hC hLS hA hw hl.1 (mX5_release l D τ ad sA sV _ k2 1 hk2 (by decide) M27 hM _ hv) kX5_release ml_X5_60 rfl (gX_185 τ ad M27) rfl rfl (Nat.le_of_ble_eq_true rfl) (rm_ok (by decide) (by decide)) ⟨Nat.zero_le _, Nat.zero_le _⟩ dX5_read_121 (fun M29 H locs hM hv hw => ?_)
          refine r_iconst hx hb dX5_read_124 ?_
          exact k_iret (wq_X τ ad) hx hb hr hlk hw hM (by decide) hv dX5_read_125
        · have hv := hv.2 b28
          refine lv_aload_n hx hb dX5_read_113 rfl (lv_at hl 1 rfl) ?_
          refine gf_X5_54 hx hb hC hw 156 (gX_156 τ ad M27) rfl dX5_read_114 ?_
          refine r_top (fun x30 e30 => ?_)
          have g30 : iR x30 := by rw [e30]; exact hM.get (by decide) _
          have hv := hv x30 e30 g30
          exact k_iret (wq_X τ ad) hx hb hr hlk hw hM g30 hv dX5_read_117
  refine lv_aload_n hx hb dX5_read_0 rfl (lv_at hl 1 rfl) ?_
  refine k_cVz (wq_X τ ad) hx hb hml hC hLS hA hw hl.1 (mX9_isEmpty l D τ ad sA sV _   M hM _ hv) kX9_isEmpty ml_X5_26 rfl (gX_156 τ ad M) rfl rfl (Nat.le_of_ble_eq_true rfl) (rm_ok (by decide) (by decide)) ⟨Nat.zero_le _, Nat.zero_le _⟩ dX5_read_1 (fun x1 M1 H locs g1 z1 hM hv hw => ?_)
  have hv := hv g1 z1
  refine r_if_eq (tgt := 13) hx hb dX5_read_4 (by decide) g1  (fun b2 => ?_) (fun b2 => ?_)
  · have hv := hv.1 b2
    refine lv_aload_n hx hb dX5_read_13 rfl (lv_at hl 2 rfl) ?_
    refine k_cVv (wq_X τ ad) hx hb hml hC hLS hA hw hl.1 (mX2_clear l D τ ad sA sV _ k2 hk2 M1 hM _ hv) kX2_clear ml_X5_37 rfl (gL_X hk2 τ ad M1) rfl rfl (Nat.le_of_ble_eq_true rfl) (rm_ok (by decide) (by decide)) ⟨Nat.zero_le _, Nat.zero_le _⟩ dX5_read_14 (fun M3 H locs hM hv hw => ?_)
    refine lv_aload_n hx hb dX5_read_17 rfl (lv_at hl 0 rfl) ?_
    refine r_iconst hx hb dX5_read_18 ?_
    obtain ⟨M4, e4⟩ : ∃ M4 : Mem, M4 = up2 M3 185 1 0 := ⟨_, rfl⟩
    have hv := hv M4 e4
    refine pf_X5_15 (ws' := (WX τ ad M4)) hx hb hC hw 185 (gX_185 τ ad M3) (Nat.le_of_ble_eq_true rfl) (by rw [e4]; exact sX_185_1 τ ad M3 _) dX5_read_19 (fun H locs hw => ?_)
    have hM : MR M4 := by rw [e4]; exact hM.put (by decide) (by decide)
    refine lv_aload_n hx hb dX5_read_22 rfl (lv_at hl 0 rfl) ?_
    refine r_iconst hx hb dX5_read_23 ?_
    obtain ⟨M5, e5⟩ : ∃ M5 : Mem, M5 = up2 M4 185 2 0 := ⟨_, rfl⟩
    have hv := hv M5 e5
    refine pf_X5_19 (ws' := (WX τ ad M5)) hx hb hC hw 185 (gX_185 τ ad M4) (Nat.le_of_ble_eq_true rfl) (by rw [e5]; exact sX_185_2 τ ad M4 _) dX5_read_24 (fun H locs hw => ?_)
    have hM : MR M5 := by rw [e5]; exact hM.put (by decide) (by decide)
    refine lv_aload_n hx hb dX5_read_27 rfl (lv_at hl 0 rfl) ?_
    refine r_iconst hx hb dX5_read_28 ?_
    obtain ⟨M6, e6⟩ : ∃ M6 : Mem, M6 = up2 M5 185 3 1 := ⟨_, rfl⟩
    have hv := hv M6 e6
    refine pf_X5_22 (ws' := (WX τ ad M6)) hx hb hC hw 185 (by decide) (gX_185 τ ad M5) (Nat.le_of_ble_eq_true rfl) (by rw [e6]; exact sX_185_3 τ ad M5 _) dX5_read_29 (fun H locs hw => ?_)
    have hM : MR M6 := by rw [e6]; exact hM.put (by decide) (by decide)
    refine lv_aload_n hx hb dX5_read_32 rfl (lv_at hl 1 rfl) ?_
    refine r_bipush hx hb dX5_read_33 (by decide +kernel) ?_
    refine k_cVv (wq_X τ ad) hx hb hml hC hLS hA hw hl.1 (mX9_open l D τ ad sA sV _ 40 (by decide) M6 hM _ hv) kX9_open ml_X5_40 rfl (gX_156 τ ad M6) rfl rfl (Nat.le_of_ble_eq_true rfl) (rm_ok (by decide) (by decide)) ⟨Nat.zero_le _, Nat.zero_le _⟩ dX5_read_35 (fun M7 H locs hM hv hw => ?_)
    refine r_iconst hx hb dX5_read_38 ?_
    refine lv_istore_n (lv' := [(3, .int (iI 0)), (0, .ref (ad 185)), (1, .ref (ad 156)), (2, .ref (ad k2))]) hx hb dX5_read_39 rfl hl (by decide) rfl (fun ls hl => ?_)
    obtain ⟨n20, hv⟩ := hv
    refine L40 _ ?_ n20 0 M7 _ _ _ hM hv hw (lv_sub hl [1, 2, 3, 0] rfl)
    · intro  M H locs ls hM hv hw hl
      exact J92  M _ _ _ hM hv hw (lv_sub hl [0, 1, 2] rfl)
  · have hv := hv.2 b2
    refine lv_aload_n hx hb dX5_read_7 rfl (lv_at hl 2 rfl) ?_
    refine k_cVv (wq_X τ ad) hx hb hml hC hLS hA hw hl.1 (mX2_becomePlain l D τ ad sA sV _ k2 hk2 M1 hM _ hv) kX2_becomePlain ml_X5_32 rfl (gL_X hk2 τ ad M1) rfl rfl (Nat.le_of_ble_eq_true rfl) (rm_ok (by decide) (by decide)) ⟨Nat.zero_le _, Nat.zero_le _⟩ dX5_read_8 (fun M31 H locs hM hv hw => ?_)
    refine r_iconst hx hb dX5_read_11 ?_
    exact k_iret (wq_X τ ad) hx hb hr hlk hw hM (by decide) hv dX5_read_12
set_option maxHeartbeats 4000000 in
set_option maxRecDepth 100000 in
theorem mX11_rule (l : Launch) (D : va_G) (τ : Nat → ClassId) (ad : Nat → Nat) (sA sV : Nat → Nat) (sz : Nat)   (M : Mem) (hM : MR M) (Q : Int → Mem → Prop) (hv : qX11_rule  M Q) : Met l yX11_rule (lw_w yX11_rule cX11_rule 3 (some .int)) (rmk 8 0 0) (kPc D τ sA sV (WX τ ad M) sz [.ref (ad 155)]) (gQi D (EQi (WX τ ad) MR Q) (va_A (WX τ ad M) sz)) 0 0 (va_A (WX τ ad M) sz) := by
  refine k_met (ret := (some .int)) (Qc := gQi D (EQi (WX τ ad) MR Q)) (by decide +kernel) (Nat.le_of_ble_eq_true rfl) ?_
  intro p e s m args below meth c A ls hx hb hml hr hlk hnm hC hLS hA hw hl
  have hC : cx D τ s m args RX11 := hC
  have hl : lv_has ls 3 [(0, .ref (ad 155))] := hl
  unfold qX11_rule at hv
  refine lv_aload_n hx hb dX11_rule_0 rfl (lv_at hl 0 rfl) ?_
  refine gf_X11_94 hx hb hC hw 155 (gX_155 τ ad M) rfl dX11_rule_1 ?_
  refine lv_aload_n hx hb dX11_rule_4 rfl (lv_at hl 0 rfl) ?_
  refine gf_X11_10 hx hb hC hw 155 (gX_155 τ ad M) rfl dX11_rule_5 ?_
  refine lv_aload_n hx hb dX11_rule_8 rfl (lv_at hl 0 rfl) ?_
  refine gf_X11_109 hx hb hC hw 155 (gX_155 τ ad M) rfl dX11_rule_9 ?_
  obtain ⟨c1, hv⟩ := hv
  refine k_cVi (wq_X τ ad) hx hb hml hC hLS hA hw hl.1 (mX5_read l D τ ad sA sV _ (M 155 17).toNat c1 M hM _ hv) kX5_read ml_X11_216 rfl (gX_185 τ ad M) rfl rfl (Nat.le_of_ble_eq_true rfl) (rm_ok (by decide) (by decide)) ⟨Nat.zero_le _, Nat.zero_le _⟩ dX11_rule_12 (fun x2 M2 H locs g2 hM hv hw => ?_)
  have hv := hv g2
  refine lv_istore_n (lv' := [(1, .int (iI x2)), (0, .ref (ad 155))]) hx hb dX11_rule_15 rfl hl (by decide) rfl (fun ls hl => ?_)
  refine lv_aload_n hx hb dX11_rule_16 rfl (lv_at hl 1 rfl) ?_
  refine gf_X11_10 hx hb hC hw 155 (gX_155 τ ad M2) rfl dX11_rule_17 ?_
  refine k_cVv (wq_X τ ad) hx hb hml hC hLS hA hw hl.1 (mX9_clear l D τ ad sA sV _   M2 hM _ hv) kX9_clear ml_X11_140 rfl (gX_156 τ ad M2) rfl rfl (Nat.le_of_ble_eq_true rfl) (rm_ok (by decide) (by decide)) ⟨Nat.zero_le _, Nat.zero_le _⟩ dX11_rule_20 (fun M3 H locs hM hv hw => ?_)
  refine lv_iload_n hx hb dX11_rule_23 rfl (lv_at hl 0 rfl) ?_
  refine r_iconst hx hb dX11_rule_24 ?_
  refine r_icmp_eq (tgt := 32) hx hb dX11_rule_25 (by decide) g2 (by decide) (fun b4 => ?_) (fun b4 => ?_)
  · have hv := hv.1 b4
    refine lv_aload_n hx hb dX11_rule_32 rfl (lv_at hl 1 rfl) ?_
    refine gf_X11_105 hx hb hC hw 155 (gX_155 τ ad M3) rfl dX11_rule_33 ?_
    obtain ⟨c5, hv⟩ := hv
    refine lv_astore_n (lv' := [(2, .ref (ad (M3 155 16).toNat)), (1, .int (iI x2)), (0, .ref (ad 155))]) hx hb dX11_rule_36 rfl hl (by decide) rfl (fun ls hl => ?_)
    refine lv_aload_n hx hb dX11_rule_37 rfl (lv_at hl 2 rfl) ?_
    refine lv_aload_n hx hb dX11_rule_38 rfl (lv_at hl 2 rfl) ?_
    refine gf_X11_109 hx hb hC hw 155 (gX_155 τ ad M3) rfl dX11_rule_39 ?_
    obtain ⟨c6, hv⟩ := hv
    obtain ⟨M7, e7⟩ : ∃ M7 : Mem, M7 = up2 M3 155 16 ((M3 155 17).toNat : Nat) := ⟨_, rfl⟩
    have hv := hv M7 e7
    refine pf_X11_105 (ws' := (WX τ ad M7)) hx hb hC hw 155 (gX_155 τ ad M3) (Nat.le_of_ble_eq_true rfl) (by rw [e7]; exact sX_155_16 τ ad M3 _) dX11_rule_42 (fun H locs hw => ?_)
    have hM : MR M7 := by rw [e7]; exact hM.put (by decide) (isL_R c6)
    refine lv_aload_n hx hb dX11_rule_45 rfl (lv_at hl 2 rfl) ?_
    refine lv_aload_n hx hb dX11_rule_46 rfl (lv_at hl 0 rfl) ?_
    obtain ⟨M8, e8⟩ : ∃ M8 : Mem, M8 = up2 M7 155 17 ((M3 155 16).toNat : Nat) := ⟨_, rfl⟩
    have hv := hv M8 e8
    refine pf_X11_109 (ws' := (WX τ ad M8)) hx hb hC hw 155 (gX_155 τ ad M7) (Nat.le_of_ble_eq_true rfl) (by rw [e8]; exact sX_155_17 τ ad M7 _) dX11_rule_47 (fun H locs hw => ?_)
    have hM : MR M8 := by rw [e8]; exact hM.put (by decide) (isL_R c5)
    refine r_iconst hx hb dX11_rule_50 ?_
    exact k_iret (wq_X τ ad) hx hb hr hlk hw hM (by decide) hv dX11_rule_51
  · have hv := hv.2 b4
    refine r_iconst hx hb dX11_rule_28 ?_
    refine lv_iload_n hx hb dX11_rule_29 rfl (lv_at hl 0 rfl) ?_
    refine r_isub (z := ((-1) - x2)) hx hb dX11_rule_30 rfl ?_
    obtain ⟨c9, hv⟩ := hv
    exact k_iret (wq_X τ ad) hx hb hr hlk hw hM c9 hv dX11_rule_31
set_option maxHeartbeats 4000000 in
set_option maxRecDepth 100000 in
theorem mX8_putOnStreet (l : Launch) (D : va_G) (τ : Nat → ClassId) (ad : Nat → Nat) (sA sV : Nat → Nat) (sz : Nat) (p1 : Int) (hp1 : iR p1) (M : Mem) (hM : MR M) (Q : Int → Mem → Prop) (hv : qX8_putOnStreet p1 M Q) : Met l yX8_putOnStreet (lw_w yX8_putOnStreet cX8_putOnStreet 2 (some .int)) (rmk 2 0 0) (kPc D τ sA sV (WX τ ad M) sz [.ref (ad 158), .int (iI p1)]) (gQi D (EQi (WX τ ad) MR Q) (va_A (WX τ ad M) sz)) 0 0 (va_A (WX τ ad M) sz) := by
  refine k_met (ret := (some .int)) (Qc := gQi D (EQi (WX τ ad) MR Q)) (by decide +kernel) (Nat.le_of_ble_eq_true rfl) ?_
  intro p e s m args below meth c A ls hx hb hml hr hlk hnm hC hLS hA hw hl
  have hC : cx D τ s m args RX8 := hC
  have hl : lv_has ls 2 [(0, .ref (ad 158)), (1, .int (iI p1))] := hl
  unfold qX8_putOnStreet at hv
  refine r_iconst hx hb dX8_putOnStreet_0 ?_
  refine lv_iload_n hx hb dX8_putOnStreet_1 rfl (lv_at hl 1 rfl) ?_
  refine lv_aload_n hx hb dX8_putOnStreet_2 rfl (lv_at hl 0 rfl) ?_
  refine k_cVi (wq_X τ ad) hx hb hml hC hLS hA hw hl.1 (mX8_gate l D τ ad sA sV _   M hM _ hv) kX8_gate ml_X8_34 rfl (gX_158 τ ad M) rfl rfl (Nat.le_of_ble_eq_true rfl) (rm_ok (by decide) (by decide)) ⟨Nat.zero_le _, Nat.zero_le _⟩ dX8_putOnStreet_3 (fun x1 M1 H locs g1 hM hv hw => ?_)
  have hv := hv g1
  refine r_iconst hx hb dX8_putOnStreet_6 ?_
  refine r_isub (z := (x1 - 1)) hx hb dX8_putOnStreet_7 rfl ?_
  obtain ⟨c2, hv⟩ := hv
  refine r_mminF hx hb hml hC hl.1 ml_X8_38 sm_min in_J9 cd_min (by decide) (Nat.le_of_ble_eq_true rfl) (Nat.zero_le _) (Nat.zero_le _) hp1 c2 dX8_putOnStreet_8 (fun x3 e3 g3 => ?_)
  have hv := hv x3 e3 g3
  refine r_mmaxF hx hb hml hC hl.1 ml_X8_44 sm_max in_J9 cd_max (by decide) (Nat.le_of_ble_eq_true rfl) (Nat.zero_le _) (Nat.zero_le _) (by decide) g3 dX8_putOnStreet_11 (fun x4 e4 g4 => ?_)
  have hv := hv x4 e4 g4
  exact k_iret (wq_X τ ad) hx hb hr hlk hw hM g4 hv dX8_putOnStreet_14
set_option maxHeartbeats 4000000 in
set_option maxRecDepth 100000 in
theorem mX11_cellOfEntry (l : Launch) (D : va_G) (τ : Nat → ClassId) (ad : Nat → Nat) (sA sV : Nat → Nat) (sz : Nat) (p1 : Int) (p2 : Int) (hp1 : iR p1) (hp2 : iR p2) (M : Mem) (hM : MR M) (Q : Int → Mem → Prop) (hv : qX11_cellOfEntry p1 p2 M Q) : Met l yX11_cellOfEntry (lw_w yX11_cellOfEntry cX11_cellOfEntry 4 (some .int)) (rmk 3 0 0) (kPc D τ sA sV (WX τ ad M) sz [.ref (ad 155), .int (iI p1), .int (iI p2)]) (gQi D (EQi (WX τ ad) MR Q) (va_A (WX τ ad M) sz)) 0 0 (va_A (WX τ ad M) sz) := by
  refine k_met (ret := (some .int)) (Qc := gQi D (EQi (WX τ ad) MR Q)) (by decide +kernel) (Nat.le_of_ble_eq_true rfl) ?_
  intro p e s m args below meth c A ls hx hb hml hr hlk hnm hC hLS hA hw hl
  have hC : cx D τ s m args RX11 := hC
  have hl : lv_has ls 4 [(0, .ref (ad 155)), (1, .int (iI p1)), (2, .int (iI p2))] := hl
  unfold qX11_cellOfEntry at hv
  have J20 : ∀ (v3 : Int) (M : Mem) (H : Heap) (locs : List Loc) (ls : Array Slot), MR M → qX11_cellOfEntry_J20 p1 p2 Q v3 M → wS D A s.heap (WX τ ad M) H locs → lv_has ls 4 [(0, .ref (ad 155)), (3, .int (iI v3))] → W p l e (rmk 3 0 0) s m args below meth c H locs 0 0 (MQ below (gQi D (EQi (WX τ ad) MR Q) A) args s 0 0 A) (F0 m 20 ls []) := by
    intro v3 M H locs ls hM hv hw hl
    unfold qX11_cellOfEntry_J20 at hv
    refine lv_aload_n hx hb dX11_cellOfEntry_20 rfl (lv_at hl 0 rfl) ?_
    refine gf_X11_19 hx hb hC hw 155 (gX_155 τ ad M) rfl dX11_cellOfEntry_21 ?_
    refine lv_iload_n hx hb dX11_cellOfEntry_24 rfl (lv_at hl 1 rfl) ?_
    obtain ⟨c3, hv⟩ := hv
    refine k_cVi (wq_X τ ad) hx hb hml hC hLS hA hw hl.1 (mX8_putOnStreet l D τ ad sA sV _ v3 c3 M hM _ hv) kX8_putOnStreet ml_X11_285 rfl (gX_158 τ ad M) rfl rfl (Nat.le_of_ble_eq_true rfl) (rm_ok (by decide) (by decide)) ⟨Nat.zero_le _, Nat.zero_le _⟩ dX11_cellOfEntry_25 (fun x4 M4 H locs g4 hM hv hw => ?_)
    have hv := hv g4
    exact k_iret (wq_X τ ad) hx hb hr hlk hw hM g4 hv dX11_cellOfEntry_28
  refine lv_iload_n hx hb dX11_cellOfEntry_0 rfl (lv_at hl 2 rfl) ?_
  refine lv_istore_n (lv' := [(3, .int (iI p2)), (0, .ref (ad 155)), (1, .int (iI p1)), (2, .int (iI p2))]) hx hb dX11_cellOfEntry_1 rfl hl (by decide) rfl (fun ls hl => ?_)
  refine lv_iload_n hx hb dX11_cellOfEntry_2 rfl (lv_at hl 2 rfl) ?_
  refine r_if_ne (tgt := 12) hx hb dX11_cellOfEntry_3 (by decide) hp1  (fun b1 => ?_) (fun b1 => ?_)
  · have hv := hv.1 b1
    refine lv_iload_n hx hb dX11_cellOfEntry_12 rfl (lv_at hl 2 rfl) ?_
    refine r_iconst hx hb dX11_cellOfEntry_13 ?_
    refine r_icmp_ne (tgt := 20) hx hb dX11_cellOfEntry_14 (by decide) hp1 (by decide) (fun b2 => ?_) (fun b2 => ?_)
    · have hv := hv.1 b2
      exact J20 p2 M _ _ _ hM hv hw (lv_sub hl [1, 0] rfl)
    · have hv := hv.2 b2
      refine lv_iload_n hx hb dX11_cellOfEntry_17 rfl (lv_at hl 3 rfl) ?_
      refine r_i2sF hx hb dX11_cellOfEntry_18 (fun x5 e5 g5 => ?_)
      have hv := hv x5 e5 g5
      refine lv_istore_n (lv' := [(3, .int (iI x5)), (0, .ref (ad 155)), (1, .int (iI p1)), (2, .int (iI p2))]) hx hb dX11_cellOfEntry_19 rfl hl (by decide) rfl (fun ls hl => ?_)
      exact J20 x5 M _ _ _ hM hv hw (lv_sub hl [1, 0] rfl)
  · have hv := hv.2 b1
    refine lv_iload_n hx hb dX11_cellOfEntry_6 rfl (lv_at hl 3 rfl) ?_
    refine r_i2bF hx hb dX11_cellOfEntry_7 (fun x6 e6 g6 => ?_)
    have hv := hv x6 e6 g6
    refine lv_istore_n (lv' := [(3, .int (iI x6)), (0, .ref (ad 155)), (1, .int (iI p1)), (2, .int (iI p2))]) hx hb dX11_cellOfEntry_8 rfl hl (by decide) rfl (fun ls hl => ?_)
    refine lv_goto (tgt := 20) hx hb dX11_cellOfEntry_9 (by decide) ?_
    exact J20 x6 M _ _ _ hM hv hw (lv_sub hl [1, 0] rfl)
set_option maxHeartbeats 4000000 in
set_option maxRecDepth 100000 in
theorem mX6_hasEnded (l : Launch) (D : va_G) (τ : Nat → ClassId) (ad : Nat → Nat) (sA sV : Nat → Nat) (sz : Nat) (k0 : Nat) (p1 : Int) (hk0 : isS k0) (hp1 : iR p1) (M : Mem) (hM : MR M) (Q : Int → Mem → Prop) (hv : qX6_hasEnded k0 p1 M Q) : Met l yX6_hasEnded (lw_w yX6_hasEnded cX6_hasEnded 2 (some .boolean)) (rmk 1 0 0) (kPc D τ sA sV (WX τ ad M) sz [.ref (ad k0), .int (iI p1)]) (gQi D (EQz (WX τ ad) MR Q) (va_A (WX τ ad M) sz)) 0 0 (va_A (WX τ ad M) sz) := by
  refine k_met (ret := (some .boolean)) (Qc := gQi D (EQz (WX τ ad) MR Q)) (by decide +kernel) (Nat.le_of_ble_eq_true rfl) ?_
  intro p e s m args below meth c A ls hx hb hml hr hlk hnm hC hLS hA hw hl
  have hC : cx D τ s m args RX6 := hC
  have hl : lv_has ls 2 [(0, .ref (ad k0)), (1, .int (iI p1))] := hl
  unfold qX6_hasEnded at hv
  refine lv_aload_n hx hb dX6_hasEnded_0 rfl (lv_at hl 0 rfl) ?_
  refine gf_X6_27 hx hb hC hw k0 (gS_X hk0 τ ad M) rfl dX6_hasEnded_1 ?_
  refine lv_iload_n hx hb dX6_hasEnded_4 rfl (lv_at hl 1 rfl) ?_
  obtain ⟨c1, hv⟩ := hv
  obtain ⟨c2, hv⟩ := hv
  refine r_iald hx hb hC hw (k0 + 6) (gI_X (isS_f5 hk0) τ ad M) c1 c2 (by decide) dX6_hasEnded_5 ?_
  refine r_top (fun x3 e3 => ?_)
  have g3 : iR x3 := by rw [e3]; exact hM.get (isS_f5 hk0).pos _
  have hv := hv x3 e3 g3
  refine r_iconst hx hb dX6_hasEnded_6 ?_
  refine r_icmp_eq (tgt := 14) hx hb dX6_hasEnded_7 (by decide) g3 (by decide) (fun b4 => ?_) (fun b4 => ?_)
  · have hv := hv.1 b4
    refine r_iconst hx hb dX6_hasEnded_14 ?_
    exact k_zret (wq_X τ ad) hx hb hr hlk hw hM (by decide) (by decide) hv dX6_hasEnded_15
  · have hv := hv.2 b4
    refine r_iconst hx hb dX6_hasEnded_10 ?_
    refine lv_goto (tgt := 15) hx hb dX6_hasEnded_11 (by decide) ?_
    exact k_zret (wq_X τ ad) hx hb hr hlk hw hM (by decide) (by decide) hv dX6_hasEnded_15
set_option maxHeartbeats 4000000 in
set_option maxRecDepth 100000 in
theorem mX11_sheet (l : Launch) (D : va_G) (τ : Nat → ClassId) (ad : Nat → Nat) (sA sV : Nat → Nat) (sz : Nat) (p1 : Int) (p2 : Int) (p3 : Int) (p4 : Int) (hp1 : iR p1) (hp2 : iR p2) (hp3 : iR p3) (hp4 : iR p4) (M : Mem) (hM : MR M) (Q : Int → Mem → Prop) (hv : qX11_sheet p1 p2 p3 p4 M Q) : Met l yX11_sheet (lw_w yX11_sheet cX11_sheet 8 (some .int)) (rmk 4 0 0) (kPc D τ sA sV (WX τ ad M) sz [.ref (ad 155), .int (iI p1), .int (iI p2), .int (iI p3), .int (iI p4)]) (gQi D (EQi (WX τ ad) MR Q) (va_A (WX τ ad M) sz)) 0 0 (va_A (WX τ ad M) sz) := by
  refine k_met (ret := (some .int)) (Qc := gQi D (EQi (WX τ ad) MR Q)) (by decide +kernel) (Nat.le_of_ble_eq_true rfl) ?_
  intro p e s m args below meth c A ls hx hb hml hr hlk hnm hC hLS hA hw hl
  have hC : cx D τ s m args RX11 := hC
  have hl : lv_has ls 8 [(0, .ref (ad 155)), (1, .int (iI p1)), (2, .int (iI p2)), (3, .int (iI p3)), (4, .int (iI p4))] := hl
  unfold qX11_sheet at hv
  have J104 : ∀ (R : Int → Int → Int → Mem → Prop), (∀ (v5 : Int) (v6 : Int) (v7 : Int) (M : Mem) (H : Heap) (locs : List Loc) (ls : Array Slot), MR M → R v5 v6 v7 M → wS D A s.heap (WX τ ad M) H locs → lv_has ls 8 [(0, .ref (ad 155)), (1, .int (iI p1)), (3, .int (iI p3)), (4, .int (iI p4)), (5, .int (iI v5)), (6, .int (iI v6)), (7, .int (iI v7))] → W p l e (rmk 4 0 0) s m args below meth c H locs 0 0 (MQ below (gQi D (EQi (WX τ ad) MR Q) A) args s 0 0 A) (F0 m 47 ls [])) → ∀ (X125 : Int → Mem → Prop), (∀ (v6 : Int) (M : Mem) (H : Heap) (locs : List Loc) (ls : Array Slot), MR M → X125 v6 M → wS D A s.heap (WX τ ad M) H locs → lv_has ls 8 [(1, .int (iI p1)), (6, .int (iI v6))] → W p l e (rmk 4 0 0) s m args below meth c H locs 0 0 (MQ below (gQi D (EQi (WX τ ad) MR Q) A) args s 0 0 A) (F0 m 125 ls [])) → ∀ (v5 : Int) (v6 : Int) (v7 : Int) (M : Mem) (H : Heap) (locs : List Loc) (ls : Array Slot), MR M → qX11_sheet_J104 p1 p2 p3 p4 R X125 Q v5 v6 v7 M → wS D A s.heap (WX τ ad M) H locs → lv_has ls 8 [(0, .ref (ad 155)), (1, .int (iI p1)), (3, .int (iI p3)), (4, .int (iI p4)), (5, .int (iI v5)), (6, .int (iI v6)), (7, .int (iI v7))] → W p l e (rmk 4 0 0) s m args below meth c H locs 0 0 (MQ below (gQi D (EQi (WX τ ad) MR Q) A) args s 0 0 A) (F0 m 104 ls []) := by
    intro R hR X125 hX125 v5 v6 v7 M H locs ls hM hv hw hl
    unfold qX11_sheet_J104 at hv
    refine lv_iload hx hb dX11_sheet_104 (lv_at hl 5 rfl) ?_
    refine lv_aload_n hx hb dX11_sheet_106 rfl (lv_at hl 0 rfl) ?_
    refine gf_X11_26 hx hb hC hw 155 (gX_155 τ ad M) rfl dX11_sheet_107 ?_
    refine gf_X11_270 hx hb hC hw 1 (gS_X (by decide) τ ad M) rfl dX11_sheet_110 ?_
    refine lv_iload hx hb dX11_sheet_113 (lv_at hl 6 rfl) ?_
    obtain ⟨c11, hv⟩ := hv
    obtain ⟨c12, hv⟩ := hv
    refine r_iald hx hb hC hw 4 (gI_X (isS_f2 (by decide)) τ ad M) c11 c12 (by decide) dX11_sheet_115 ?_
    refine r_top (fun x13 e13 => ?_)
    have g13 : iR x13 := by rw [e13]; exact hM.get (isS_f2 (by decide)).pos _
    have hv := hv x13 e13 g13
    refine r_iaddW hx hb dX11_sheet_116 (fun x14 e14 g14 => ?_)
    have hv := hv x14 e14 g14
    refine lv_istore (lv' := [(6, .int (iI x14)), (0, .ref (ad 155)), (1, .int (iI p1)), (3, .int (iI p3)), (4, .int (iI p4)), (5, .int (iI v5)), (7, .int (iI v7))]) hx hb dX11_sheet_117 hl (by decide) rfl (fun ls hl => ?_)
    refine r_iinc (v := (v7 + 1)) (lv' := [(7, .int (iI (v7 + 1))), (6, .int (iI x14)), (0, .ref (ad 155)), (1, .int (iI p1)), (3, .int (iI p3)), (4, .int (iI p4)), (5, .int (iI v5))]) hx hb dX11_sheet_119 hl (k := 6) rfl rfl (by decide) rfl (fun ls hl => ?_)
    refine lv_goto (tgt := 47) hx hb dX11_sheet_122 (by decide) ?_
    exact hR v5 x14 (v7 + 1) M _ _ _ hM hv hw (lv_sub hl [2, 3, 4, 5, 6, 1, 0] rfl)
  have J103 : ∀ (R : Int → Int → Int → Mem → Prop), (∀ (v5 : Int) (v6 : Int) (v7 : Int) (M : Mem) (H : Heap) (locs : List Loc) (ls : Array Slot), MR M → R v5 v6 v7 M → wS D A s.heap (WX τ ad M) H locs → lv_has ls 8 [(0, .ref (ad 155)), (1, .int (iI p1)), (3, .int (iI p3)), (4, .int (iI p4)), (5, .int (iI v5)), (6, .int (iI v6)), (7, .int (iI v7))] → W p l e (rmk 4 0 0) s m args below meth c H locs 0 0 (MQ below (gQi D (EQi (WX τ ad) MR Q) A) args s 0 0 A) (F0 m 47 ls [])) → ∀ (X125 : Int → Mem → Prop), (∀ (v6 : Int) (M : Mem) (H : Heap) (locs : List Loc) (ls : Array Slot), MR M → X125 v6 M → wS D A s.heap (WX τ ad M) H locs → lv_has ls 8 [(1, .int (iI p1)), (6, .int (iI v6))] → W p l e (rmk 4 0 0) s m args below meth c H locs 0 0 (MQ below (gQi D (EQi (WX τ ad) MR Q) A) args s 0 0 A) (F0 m 125 ls [])) → ∀ (v5 : Int) (v6 : Int) (v7 : Int) (t0 : Int) (t1 : Int) (M : Mem) (H : Heap) (locs : List Loc) (ls : Array Slot), MR M → qX11_sheet_J103 p1 p2 p3 p4 R X125 Q v5 v6 v7 t0 t1 M → wS D A s.heap (WX τ ad M) H locs → lv_has ls 8 [(0, .ref (ad 155)), (1, .int (iI p1)), (3, .int (iI p3)), (4, .int (iI p4)), (5, .int (iI v5)), (6, .int (iI v6)), (7, .int (iI v7))] → W p l e (rmk 4 0 0) s m args below meth c H locs 0 0 (MQ below (gQi D (EQi (WX τ ad) MR Q) A) args s 0 0 A) (F0 m 103 ls [.int (iI t0), .int (iI t1), .ref (ad 4)]) := by
    intro R hR X125 hX125 v5 v6 v7 t0 t1 M H locs ls hM hv hw hl
    unfold qX11_sheet_J103 at hv
    obtain ⟨c17, hv⟩ := hv
    obtain ⟨c18, hv⟩ := hv
    obtain ⟨c19, hv⟩ := hv
    obtain ⟨M20, e20⟩ : ∃ M20 : Mem, M20 = up2 M 4 t1 t0 := ⟨_, rfl⟩
    have hv := hv M20 e20
    refine r_iast (ws' := (WX τ ad M20)) hx hb hC hw 4 (gI_X (isS_f2 (by decide)) τ ad M) c17 c18 (by decide) (by rw [e20]; exact sI_X (isS_f2 (by decide)) τ ad M _ _) dX11_sheet_103 (fun H locs hw => ?_)
    have hM : MR M20 := by rw [e20]; exact hM.put (isS_f2 (by decide)).pos c19
    exact J104 _ hR _ hX125 v5 v6 v7 M20 _ _ _ hM hv hw (lv_sub hl [0, 1, 2, 3, 4, 5, 6] rfl)
  have L47 : ∀ (X125 : Int → Mem → Prop), (∀ (v6 : Int) (M : Mem) (H : Heap) (locs : List Loc) (ls : Array Slot), MR M → X125 v6 M → wS D A s.heap (WX τ ad M) H locs → lv_has ls 8 [(1, .int (iI p1)), (6, .int (iI v6))] → W p l e (rmk 4 0 0) s m args below meth c H locs 0 0 (MQ below (gQi D (EQi (WX τ ad) MR Q) A) args s 0 0 A) (F0 m 125 ls [])) → ∀ (n : Nat) (v5 : Int) (v6 : Int) (v7 : Int) (M : Mem) (H : Heap) (locs : List Loc) (ls : Array Slot), MR M → qX11_sheet_L47 p1 p2 p3 p4 X125 Q n v5 v6 v7 M → wS D A s.heap (WX τ ad M) H locs → lv_has ls 8 [(0, .ref (ad 155)), (1, .int (iI p1)), (3, .int (iI p3)), (4, .int (iI p4)), (5, .int (iI v5)), (6, .int (iI v6)), (7, .int (iI v7))] → W p l e (rmk 4 0 0) s m args below meth c H locs 0 0 (MQ below (gQi D (EQi (WX τ ad) MR Q) A) args s 0 0 A) (F0 m 47 ls []) := by
    intro X125 hX125 n
    induction n with
    | zero => intro v5 v6 v7 M H locs ls hM hv; rw [qX11_sheet_L47] at hv; exact hv.elim
    | succ n ih =>
      intro v5 v6 v7 M H locs ls hM hv hw hl
      rw [qX11_sheet_L47] at hv
      refine lv_iload hx hb dX11_sheet_47 (lv_at hl 6 rfl) ?_
      refine lv_aload_n hx hb dX11_sheet_49 rfl (lv_at hl 0 rfl) ?_
      refine gf_X11_26 hx hb hC hw 155 (gX_155 τ ad M) rfl dX11_sheet_50 ?_
      refine gf_X11_191 hx hb hC hw 1 (gS_X (by decide) τ ad M) rfl dX11_sheet_53 ?_
      refine r_top (fun x6 e6 => ?_)
      have g6 : iR x6 := by rw [e6]; exact hM.get (by decide) _
      have hv := hv x6 e6 g6
      obtain ⟨c7, hv⟩ := hv
      refine r_icmp_ge (tgt := 125) hx hb dX11_sheet_56 (by decide) c7 g6 (fun b8 => ?_) (fun b8 => ?_)
      · have hv := hv.1 b8
        exact hX125 v6 M _ _ _ hM hv hw (lv_sub hl [1, 5] rfl)
      · have hv := hv.2 b8
        refine lv_aload_n hx hb dX11_sheet_59 rfl (lv_at hl 0 rfl) ?_
        refine gf_X11_26 hx hb hC hw 155 (gX_155 τ ad M) rfl dX11_sheet_60 ?_
        refine lv_iload hx hb dX11_sheet_63 (lv_at hl 6 rfl) ?_
        refine k_cVz (wq_X τ ad) hx hb hml hC hLS hA hw hl.1 (mX6_hasEnded l D τ ad sA sV _ 1 v7 (by decide) c7 M hM _ hv) kX6_hasEnded ml_X11_278 rfl (gS_X (by decide) τ ad M) rfl rfl (Nat.le_of_ble_eq_true rfl) (rm_ok (by decide) (by decide)) ⟨Nat.zero_le _, Nat.zero_le _⟩ dX11_sheet_65 (fun x9 M9 H locs g9 z9 hM hv hw => ?_)
        have hv := hv g9 z9
        refine r_if_ne (tgt := 104) hx hb dX11_sheet_68 (by decide) g9  (fun b10 => ?_) (fun b10 => ?_)
        · have hv := hv.1 b10
          exact J104 _ ih _ hX125 v5 v6 v7 M9 _ _ _ hM hv hw (lv_sub hl [0, 1, 2, 3, 4, 5, 6] rfl)
        · have hv := hv.2 b10
          refine lv_aload_n hx hb dX11_sheet_71 rfl (lv_at hl 0 rfl) ?_
          refine gf_X11_26 hx hb hC hw 155 (gX_155 τ ad M9) rfl dX11_sheet_72 ?_
          refine gf_X11_270 hx hb hC hw 1 (gS_X (by decide) τ ad M9) rfl dX11_sheet_75 ?_
          refine lv_iload hx hb dX11_sheet_78 (lv_at hl 6 rfl) ?_
          refine lv_iload hx hb dX11_sheet_80 (lv_at hl 6 rfl) ?_
          refine lv_iload hx hb dX11_sheet_82 (lv_at hl 4 rfl) ?_
          obtain ⟨c15, hv⟩ := hv
          refine r_icmp_ge (tgt := 102) hx hb dX11_sheet_84 (by decide) c7 c15 (fun b16 => ?_) (fun b16 => ?_)
          · have hv := hv.1 b16
            refine r_iconst hx hb dX11_sheet_102 ?_
            exact J103 _ ih _ hX125 v5 v6 v7 0 v7 M9 _ _ _ hM hv hw (lv_sub hl [0, 1, 2, 3, 4, 5, 6] rfl)
          · have hv := hv.2 b16
            refine lv_aload_n hx hb dX11_sheet_87 rfl (lv_at hl 0 rfl) ?_
            refine lv_iload_n hx hb dX11_sheet_88 rfl (lv_at hl 1 rfl) ?_
            refine lv_iload_n hx hb dX11_sheet_89 rfl (lv_at hl 2 rfl) ?_
            refine lv_iload hx hb dX11_sheet_90 (lv_at hl 6 rfl) ?_
            refine lv_iload hx hb dX11_sheet_92 (lv_at hl 3 rfl) ?_
            refine r_imulW hx hb dX11_sheet_94 (fun x21 e21 g21 => ?_)
            have hv := hv x21 e21 g21
            refine r_iaddW hx hb dX11_sheet_95 (fun x22 e22 g22 => ?_)
            have hv := hv x22 e22 g22
            refine k_cVi (wq_X τ ad) hx hb hml hC hLS hA hw hl.1 (mX11_cellOfEntry l D τ ad sA sV _ p1 x22 hp1 g22 M9 hM _ hv) kX11_cellOfEntry ml_X11_281 rfl (gX_155 τ ad M9) rfl rfl (Nat.le_of_ble_eq_true rfl) (rm_ok (by decide) (by decide)) ⟨Nat.zero_le _, Nat.zero_le _⟩ dX11_sheet_96 (fun x23 M23 H locs g23 hM hv hw => ?_)
            have hv := hv g23
            refine lv_goto (tgt := 103) hx hb dX11_sheet_99 (by decide) ?_
            exact J103 _ ih _ hX125 v5 v6 v7 x23 v7 M23 _ _ _ hM hv hw (lv_sub hl [0, 1, 2, 3, 4, 5, 6] rfl)
  have J29 : ∀  (M : Mem) (H : Heap) (locs : List Loc) (ls : Array Slot), MR M → qX11_sheet_J29 p1 p2 p3 p4 Q  M → wS D A s.heap (WX τ ad M) H locs → lv_has ls 8 [(0, .ref (ad 155)), (1, .int (iI p1)), (2, .int (iI p2)), (3, .int (iI p3)), (4, .int (iI p4))] → W p l e (rmk 4 0 0) s m args below meth c H locs 0 0 (MQ below (gQi D (EQi (WX τ ad) MR Q) A) args s 0 0 A) (F0 m 29 ls []) := by
    intro  M H locs ls hM hv hw hl
    unfold qX11_sheet_J29 at hv
    refine lv_iload_n hx hb dX11_sheet_29 rfl (lv_at hl 1 rfl) ?_
    refine r_iconst hx hb dX11_sheet_30 ?_
    refine r_icmp_ne (tgt := 38) hx hb dX11_sheet_31 (by decide) hp1 (by decide) (fun b5 => ?_) (fun b5 => ?_)
    · have hv := hv.1 b5
      refine lv_iload_n hx hb dX11_sheet_38 rfl (lv_at hl 2 rfl) ?_
      refine lv_istore (lv' := [(5, .int (iI p2)), (0, .ref (ad 155)), (1, .int (iI p1)), (2, .int (iI p2)), (3, .int (iI p3)), (4, .int (iI p4))]) hx hb dX11_sheet_39 hl (by decide) rfl (fun ls hl => ?_)
      refine r_iconst hx hb dX11_sheet_41 ?_
      refine lv_istore (lv' := [(6, .int (iI 0)), (5, .int (iI p2)), (0, .ref (ad 155)), (1, .int (iI p1)), (2, .int (iI p2)), (3, .int (iI p3)), (4, .int (iI p4))]) hx hb dX11_sheet_42 hl (by decide) rfl (fun ls hl => ?_)
      refine r_iconst hx hb dX11_sheet_44 ?_
      refine lv_istore (lv' := [(7, .int (iI 0)), (6, .int (iI 0)), (5, .int (iI p2)), (0, .ref (ad 155)), (1, .int (iI p1)), (2, .int (iI p2)), (3, .int (iI p3)), (4, .int (iI p4))]) hx hb dX11_sheet_45 hl (by decide) rfl (fun ls hl => ?_)
      obtain ⟨n24, hv⟩ := hv
      refine L47 _ ?_ n24 p2 0 0 M _ _ _ hM hv hw (lv_sub hl [3, 4, 6, 7, 2, 1, 0] rfl)
      · intro v6 M H locs ls hM hv hw hl
        refine lv_iload_n hx hb dX11_sheet_125 rfl (lv_at hl 0 rfl) ?_
        refine r_iconst hx hb dX11_sheet_126 ?_
        refine r_icmp_ne (tgt := 135) hx hb dX11_sheet_127 (by decide) hp1 (by decide) (fun b25 => ?_) (fun b25 => ?_)
        · have hv := hv.1 b25
          refine lv_iload hx hb dX11_sheet_135 (lv_at hl 1 rfl) ?_
          obtain ⟨c26, hv⟩ := hv
          exact k_iret (wq_X τ ad) hx hb hr hlk hw hM c26 hv dX11_sheet_137
        · have hv := hv.2 b25
          refine r_bipush hx hb dX11_sheet_130 (by decide +kernel) ?_
          refine lv_goto (tgt := 137) hx hb dX11_sheet_132 (by decide) ?_
          exact k_iret (wq_X τ ad) hx hb hr hlk hw hM (by decide) hv dX11_sheet_137
    · have hv := hv.2 b5
      refine r_iconst hx hb dX11_sheet_34 ?_
      refine lv_goto (tgt := 39) hx hb dX11_sheet_35 (by decide) ?_
      refine lv_istore (lv' := [(5, .int (iI 0)), (0, .ref (ad 155)), (1, .int (iI p1)), (2, .int (iI p2)), (3, .int (iI p3)), (4, .int (iI p4))]) hx hb dX11_sheet_39 hl (by decide) rfl (fun ls hl => ?_)
      refine r_iconst hx hb dX11_sheet_41 ?_
      refine lv_istore (lv' := [(6, .int (iI 0)), (5, .int (iI 0)), (0, .ref (ad 155)), (1, .int (iI p1)), (2, .int (iI p2)), (3, .int (iI p3)), (4, .int (iI p4))]) hx hb dX11_sheet_42 hl (by decide) rfl (fun ls hl => ?_)
      refine r_iconst hx hb dX11_sheet_44 ?_
      refine lv_istore (lv' := [(7, .int (iI 0)), (6, .int (iI 0)), (5, .int (iI 0)), (0, .ref (ad 155)), (1, .int (iI p1)), (2, .int (iI p2)), (3, .int (iI p3)), (4, .int (iI p4))]) hx hb dX11_sheet_45 hl (by decide) rfl (fun ls hl => ?_)
      obtain ⟨n27, hv⟩ := hv
      refine L47 _ ?_ n27 0 0 0 M _ _ _ hM hv hw (lv_sub hl [3, 4, 6, 7, 2, 1, 0] rfl)
      · intro v6 M H locs ls hM hv hw hl
        refine lv_iload_n hx hb dX11_sheet_125 rfl (lv_at hl 0 rfl) ?_
        refine r_iconst hx hb dX11_sheet_126 ?_
        refine r_icmp_ne (tgt := 135) hx hb dX11_sheet_127 (by decide) hp1 (by decide) (fun b28 => ?_) (fun b28 => ?_)
        · have hv := hv.1 b28
          refine lv_iload hx hb dX11_sheet_135 (lv_at hl 1 rfl) ?_
          obtain ⟨c29, hv⟩ := hv
          exact k_iret (wq_X τ ad) hx hb hr hlk hw hM c29 hv dX11_sheet_137
        · have hv := hv.2 b28
          refine r_bipush hx hb dX11_sheet_130 (by decide +kernel) ?_
          refine lv_goto (tgt := 137) hx hb dX11_sheet_132 (by decide) ?_
          exact k_iret (wq_X τ ad) hx hb hr hlk hw hM (by decide) hv dX11_sheet_137
  refine lv_iload_n hx hb dX11_sheet_0 rfl (lv_at hl 1 rfl) ?_
  refine r_if_lt (tgt := 15) hx hb dX11_sheet_1 (by decide) hp1  (fun b1 => ?_) (fun b1 => ?_)
  · have hv := hv.1 b1
    refine r_iconst hx hb dX11_sheet_15 ?_
    exact k_iret (wq_X τ ad) hx hb hr hlk hw hM (by decide) hv dX11_sheet_16
  · have hv := hv.2 b1
    refine lv_iload_n hx hb dX11_sheet_4 rfl (lv_at hl 1 rfl) ?_
    refine r_iconst hx hb dX11_sheet_5 ?_
    refine r_icmp_gt (tgt := 15) hx hb dX11_sheet_6 (by decide) hp1 (by decide) (fun b2 => ?_) (fun b2 => ?_)
    · have hv := hv.1 b2
      refine r_iconst hx hb dX11_sheet_15 ?_
      exact k_iret (wq_X τ ad) hx hb hr hlk hw hM (by decide) hv dX11_sheet_16
    · have hv := hv.2 b2
      refine lv_iload_n hx hb dX11_sheet_9 rfl (lv_at hl 2 rfl) ?_
      refine r_bipush hx hb dX11_sheet_10 (by decide +kernel) ?_
      refine r_icmp_le (tgt := 17) hx hb dX11_sheet_12 (by decide) hp2 (by decide) (fun b3 => ?_) (fun b3 => ?_)
      · have hv := hv.1 b3
        refine lv_iload_n hx hb dX11_sheet_17 rfl (lv_at hl 1 rfl) ?_
        refine r_iconst hx hb dX11_sheet_18 ?_
        refine r_icmp_ge (tgt := 29) hx hb dX11_sheet_19 (by decide) hp1 (by decide) (fun b4 => ?_) (fun b4 => ?_)
        · have hv := hv.1 b4
          exact J29  M _ _ _ hM hv hw (lv_sub hl [0, 1, 2, 3, 4] rfl)
        · have hv := hv.2 b4
          refine lv_iload_n hx hb dX11_sheet_22 rfl (lv_at hl 2 rfl) ?_
          refine r_if_ge (tgt := 29) hx hb dX11_sheet_23 (by decide) hp2  (fun b30 => ?_) (fun b30 => ?_)
          · have hv := hv.1 b30
            exact J29  M _ _ _ hM hv hw (lv_sub hl [0, 1, 2, 3, 4] rfl)
          · have hv := hv.2 b30
            refine r_bipush hx hb dX11_sheet_26 (by decide +kernel) ?_
            exact k_iret (wq_X τ ad) hx hb hr hlk hw hM (by decide) hv dX11_sheet_28
      · have hv := hv.2 b3
        refine r_iconst hx hb dX11_sheet_15 ?_
        exact k_iret (wq_X τ ad) hx hb hr hlk hw hM (by decide) hv dX11_sheet_16
set_option maxHeartbeats 4000000 in
set_option maxRecDepth 100000 in
theorem mX10_goal (l : Launch) (D : va_G) (τ : Nat → ClassId) (ad : Nat → Nat) (sA sV : Nat → Nat) (sz : Nat) (p1 : Int) (p2 : Int) (p3 : Int) (hp1 : iR p1) (hp2 : iR p2) (hp3 : iR p3) (M : Mem) (hM : MR M) (Q : Int → Mem → Prop) (hv : qX10_goal p1 p2 p3 M Q) : Met l yX10_goal (lw_w yX10_goal cX10_goal 8 (some .int)) (rmk 2 0 0) (kPc D τ sA sV (WX τ ad M) sz [.ref (ad 160), .int (iI p1), .int (iI p2), .int (iI p3)]) (gQi D (EQi (WX τ ad) MR Q) (va_A (WX τ ad M) sz)) 0 0 (va_A (WX τ ad M) sz) := by
  refine k_met (ret := (some .int)) (Qc := gQi D (EQi (WX τ ad) MR Q)) (by decide +kernel) (Nat.le_of_ble_eq_true rfl) ?_
  intro p e s m args below meth c A ls hx hb hml hr hlk hnm hC hLS hA hw hl
  have hC : cx D τ s m args RX10 := hC
  have hl : lv_has ls 8 [(0, .ref (ad 160)), (1, .int (iI p1)), (2, .int (iI p2)), (3, .int (iI p3))] := hl
  unfold qX10_goal at hv
  have J55 : ∀ (R : Int → Mem → Prop), (∀ (v4 : Int) (M : Mem) (H : Heap) (locs : List Loc) (ls : Array Slot), MR M → R v4 M → wS D A s.heap (WX τ ad M) H locs → lv_has ls 8 [(0, .ref (ad 160)), (1, .int (iI p1)), (2, .int (iI p2)), (4, .int (iI v4))] → W p l e (rmk 2 0 0) s m args below meth c H locs 0 0 (MQ below (gQi D (EQi (WX τ ad) MR Q) A) args s 0 0 A) (F0 m 15 ls [])) → ∀ (v4 : Int) (v5 : Int) (v6 : Int) (t0 : Int) (M : Mem) (H : Heap) (locs : List Loc) (ls : Array Slot), MR M → qX10_goal_J55 p1 p2 p3 R  Q v4 v5 v6 t0 M → wS D A s.heap (WX τ ad M) H locs → lv_has ls 8 [(0, .ref (ad 160)), (1, .int (iI p1)), (2, .int (iI p2)), (4, .int (iI v4)), (5, .int (iI v5)), (6, .int (iI v6))] → W p l e (rmk 2 0 0) s m args below meth c H locs 0 0 (MQ below (gQi D (EQi (WX τ ad) MR Q) A) args s 0 0 A) (F0 m 55 ls [.int (iI t0)]) := by
    intro R hR  v4 v5 v6 t0 M H locs ls hM hv hw hl
    unfold qX10_goal_J55 at hv
    refine lv_istore (lv' := [(7, .int (iI t0)), (0, .ref (ad 160)), (1, .int (iI p1)), (2, .int (iI p2)), (4, .int (iI v4)), (5, .int (iI v5)), (6, .int (iI v6))]) hx hb dX10_goal_55 hl (by decide) rfl (fun ls hl => ?_)
    refine lv_iload hx hb dX10_goal_57 (lv_at hl 0 rfl) ?_
    obtain ⟨c13, hv⟩ := hv
    refine r_if_eq (tgt := 85) hx hb dX10_goal_59 (by decide) c13  (fun b14 => ?_) (fun b14 => ?_)
    · have hv := hv.1 b14
      refine r_iinc (v := (v4 + (-1))) (lv' := [(4, .int (iI (v4 + (-1)))), (7, .int (iI t0)), (0, .ref (ad 160)), (1, .int (iI p1)), (2, .int (iI p2)), (5, .int (iI v5)), (6, .int (iI v6))]) hx hb dX10_goal_85 hl (k := 4) rfl rfl (by decide) rfl (fun ls hl => ?_)
      refine lv_goto (tgt := 15) hx hb dX10_goal_88 (by decide) ?_
      exact hR (v4 + (-1)) M _ _ _ hM hv hw (lv_sub hl [2, 3, 4, 0] rfl)
    · have hv := hv.2 b14
      refine lv_iload_n hx hb dX10_goal_62 rfl (lv_at hl 2 rfl) ?_
      refine lv_iload hx hb dX10_goal_63 (lv_at hl 6 rfl) ?_
      refine r_iandF hx hb dX10_goal_65 (fun x15 e15 g15 => ?_)
      have hv := hv x15 e15 g15
      refine r_if_eq (tgt := 82) hx hb dX10_goal_66 (by decide) g15  (fun b16 => ?_) (fun b16 => ?_)
      · have hv := hv.1 b16
        refine lv_iload hx hb dX10_goal_82 (lv_at hl 4 rfl) ?_
        obtain ⟨c17, hv⟩ := hv
        exact k_iret (wq_X τ ad) hx hb hr hlk hw hM c17 hv dX10_goal_84
      · have hv := hv.2 b16
        refine lv_aload_n hx hb dX10_goal_69 rfl (lv_at hl 1 rfl) ?_
        refine gf_X10_29 hx hb hC hw 160 (gX_160 τ ad M) rfl dX10_goal_70 ?_
        refine gf_X10_115 hx hb hC hw 158 (gX_158 τ ad M) rfl dX10_goal_73 ?_
        refine r_top (fun x18 e18 => ?_)
        have g18 : iR x18 := by rw [e18]; exact hM.get (by decide) _
        have hv := hv x18 e18 g18
        refine lv_iload hx hb dX10_goal_76 (lv_at hl 5 rfl) ?_
        refine r_iandF hx hb dX10_goal_78 (fun x19 e19 g19 => ?_)
        have hv := hv x19 e19 g19
        refine r_if_ne (tgt := 85) hx hb dX10_goal_79 (by decide) g19  (fun b20 => ?_) (fun b20 => ?_)
        · have hv := hv.1 b20
          refine r_iinc (v := (v4 + (-1))) (lv' := [(4, .int (iI (v4 + (-1)))), (7, .int (iI t0)), (0, .ref (ad 160)), (1, .int (iI p1)), (2, .int (iI p2)), (5, .int (iI v5)), (6, .int (iI v6))]) hx hb dX10_goal_85 hl (k := 4) rfl rfl (by decide) rfl (fun ls hl => ?_)
          refine lv_goto (tgt := 15) hx hb dX10_goal_88 (by decide) ?_
          exact hR (v4 + (-1)) M _ _ _ hM hv hw (lv_sub hl [2, 3, 4, 0] rfl)
        · have hv := hv.2 b20
          refine lv_iload hx hb dX10_goal_82 (lv_at hl 4 rfl) ?_
          obtain ⟨c21, hv⟩ := hv
          exact k_iret (wq_X τ ad) hx hb hr hlk hw hM c21 hv dX10_goal_84
  have L15 : ∀ (n : Nat) (v4 : Int) (M : Mem) (H : Heap) (locs : List Loc) (ls : Array Slot), MR M → qX10_goal_L15 p1 p2 p3  Q n v4 M → wS D A s.heap (WX τ ad M) H locs → lv_has ls 8 [(0, .ref (ad 160)), (1, .int (iI p1)), (2, .int (iI p2)), (4, .int (iI v4))] → W p l e (rmk 2 0 0) s m args below meth c H locs 0 0 (MQ below (gQi D (EQi (WX τ ad) MR Q) A) args s 0 0 A) (F0 m 15 ls []) := by
    intro n
    induction n with
    | zero => intro v4 M H locs ls hM hv; rw [qX10_goal_L15] at hv; exact hv.elim
    | succ n ih =>
      intro v4 M H locs ls hM hv hw hl
      rw [qX10_goal_L15] at hv
      refine lv_iload hx hb dX10_goal_15 (lv_at hl 3 rfl) ?_
      refine lv_iload_n hx hb dX10_goal_17 rfl (lv_at hl 2 rfl) ?_
      obtain ⟨c4, hv⟩ := hv
      refine r_icmp_le (tgt := 91) hx hb dX10_goal_18 (by decide) c4 hp2 (fun b5 => ?_) (fun b5 => ?_)
      · have hv := hv.1 b5
        refine r_iconst hx hb dX10_goal_91 ?_
        exact k_iret (wq_X τ ad) hx hb hr hlk hw hM (by decide) hv dX10_goal_92
      · have hv := hv.2 b5
        refine r_iconst hx hb dX10_goal_21 ?_
        refine lv_iload hx hb dX10_goal_22 (lv_at hl 3 rfl) ?_
        refine r_ishlF hx hb dX10_goal_24 (fun x6 e6 g6 => ?_)
        have hv := hv x6 e6 g6
        refine r_iconst hx hb dX10_goal_25 ?_
        refine lv_iload_n hx hb dX10_goal_26 rfl (lv_at hl 2 rfl) ?_
        refine r_ishlF hx hb dX10_goal_27 (fun x7 e7 g7 => ?_)
        have hv := hv x7 e7 g7
        refine r_isub (z := (x6 - x7)) hx hb dX10_goal_28 rfl ?_
        refine lv_istore (lv' := [(5, .int (iI (x6 - x7))), (0, .ref (ad 160)), (1, .int (iI p1)), (2, .int (iI p2)), (4, .int (iI v4))]) hx hb dX10_goal_29 hl (by decide) rfl (fun ls hl => ?_)
        refine r_iconst hx hb dX10_goal_31 ?_
        refine lv_iload hx hb dX10_goal_32 (lv_at hl 4 rfl) ?_
        refine r_ishlF hx hb dX10_goal_34 (fun x8 e8 g8 => ?_)
        have hv := hv x8 e8 g8
        refine r_iconst hx hb dX10_goal_35 ?_
        refine lv_iload_n hx hb dX10_goal_36 rfl (lv_at hl 3 rfl) ?_
        refine r_ishlF hx hb dX10_goal_37 (fun x9 e9 g9 => ?_)
        have hv := hv x9 e9 g9
        refine r_isub (z := (x8 - x9)) hx hb dX10_goal_38 rfl ?_
        refine lv_istore (lv' := [(6, .int (iI (x8 - x9))), (5, .int (iI (x6 - x7))), (0, .ref (ad 160)), (1, .int (iI p1)), (2, .int (iI p2)), (4, .int (iI v4))]) hx hb dX10_goal_39 hl (by decide) rfl (fun ls hl => ?_)
        refine lv_iload_n hx hb dX10_goal_41 rfl (lv_at hl 3 rfl) ?_
        refine lv_iload hx hb dX10_goal_42 (lv_at hl 5 rfl) ?_
        refine r_ishrF hx hb dX10_goal_44 (fun x10 e10 g10 => ?_)
        have hv := hv x10 e10 g10
        refine r_iconst hx hb dX10_goal_45 ?_
        refine r_iandF hx hb dX10_goal_46 (fun x11 e11 g11 => ?_)
        have hv := hv x11 e11 g11
        refine r_if_ne (tgt := 54) hx hb dX10_goal_47 (by decide) g11  (fun b12 => ?_) (fun b12 => ?_)
        · have hv := hv.1 b12
          refine r_iconst hx hb dX10_goal_54 ?_
          exact J55 _ ih  v4 (x6 - x7) (x8 - x9) 0 M _ _ _ hM hv hw (lv_sub hl [2, 3, 4, 5, 1, 0] rfl)
        · have hv := hv.2 b12
          refine r_iconst hx hb dX10_goal_50 ?_
          refine lv_goto (tgt := 55) hx hb dX10_goal_51 (by decide) ?_
          exact J55 _ ih  v4 (x6 - x7) (x8 - x9) 1 M _ _ _ hM hv hw (lv_sub hl [2, 3, 4, 5, 1, 0] rfl)
  refine lv_iload_n hx hb dX10_goal_0 rfl (lv_at hl 2 rfl) ?_
  refine lv_iload_n hx hb dX10_goal_1 rfl (lv_at hl 3 rfl) ?_
  refine r_iadd (z := (p2 + p3)) hx hb dX10_goal_2 rfl ?_
  refine lv_aload_n hx hb dX10_goal_3 rfl (lv_at hl 0 rfl) ?_
  refine gf_X10_29 hx hb hC hw 160 (gX_160 τ ad M) rfl dX10_goal_4 ?_
  refine k_cVi (wq_X τ ad) hx hb hml hC hLS hA hw hl.1 (mX8_gate l D τ ad sA sV _   M hM _ hv) kX8_gate ml_X10_102 rfl (gX_158 τ ad M) rfl rfl (Nat.le_of_ble_eq_true rfl) (rm_ok (by decide) (by decide)) ⟨Nat.zero_le _, Nat.zero_le _⟩ dX10_goal_7 (fun x1 M1 H locs g1 hM hv hw => ?_)
  have hv := hv g1
  obtain ⟨c2, hv⟩ := hv
  refine r_mminF hx hb hml hC hl.1 ml_X10_109 sm_min in_J9 cd_min (by decide) (Nat.le_of_ble_eq_true rfl) (Nat.zero_le _) (Nat.zero_le _) c2 g1 dX10_goal_10 (fun x3 e3 g3 => ?_)
  have hv := hv x3 e3 g3
  refine lv_istore (lv' := [(4, .int (iI x3)), (0, .ref (ad 160)), (1, .int (iI p1)), (2, .int (iI p2)), (3, .int (iI p3))]) hx hb dX10_goal_13 hl (by decide) rfl (fun ls hl => ?_)
  obtain ⟨n22, hv⟩ := hv
  refine L15  n22 x3 M1 _ _ _ hM hv hw (lv_sub hl [1, 2, 3, 0] rfl)
set_option maxHeartbeats 4000000 in
set_option maxRecDepth 100000 in
theorem mJ6_bitCount_0f7a4X (l : Launch) (D : va_G) (τ : Nat → ClassId) (ad : Nat → Nat) (sA sV : Nat → Nat) (sz : Nat) (p0 : Int) (hp0 : iR p0) (M : Mem) (hM : MR M) (Q : Int → Mem → Prop) (hv : qJ6_bitCount_0f7a4 p0 M Q) : Met l yJ6_bitCount_0f7a4 (lw_w yJ6_bitCount_0f7a4 cJ6_bitCount_0f7a4 1 (some .int)) (rmk 1 0 0) (kPc D τ sA sV (WX τ ad M) sz [.int (iI p0)]) (gQi D (EQi (WX τ ad) MR Q) (va_A (WX τ ad M) sz)) 0 0 (va_A (WX τ ad M) sz) := by
  refine k_metF (ret := (some .int)) (Qc := gQi D (EQi (WX τ ad) MR Q)) (by decide +kernel) (Nat.le_of_ble_eq_true rfl) ?_
  intro p e s m args below meth c A ls hx hb hml hr hlk hnm hC hLS hA hw hl
  have hC : cx D τ s m args RJ6 := hC
  have hl : lv_has ls 1 [(0, .int (iI p0))] := hl
  unfold qJ6_bitCount_0f7a4 at hv
  refine lv_iload_n hx hb dJ6_bitCount_0f7a4_0 rfl (lv_at hl 0 rfl) ?_
  refine lv_iload_n hx hb dJ6_bitCount_0f7a4_1 rfl (lv_at hl 0 rfl) ?_
  refine r_iconst hx hb dJ6_bitCount_0f7a4_2 ?_
  refine r_iushrF hx hb dJ6_bitCount_0f7a4_3 (fun x1 e1 g1 => ?_)
  have hv := hv x1 e1 g1
  refine r_ldcw (z := 1431655765) hx hb hC ct_J6_265 (by decide +kernel) dJ6_bitCount_0f7a4_4 ?_
  refine r_iandF hx hb dJ6_bitCount_0f7a4_7 (fun x2 e2 g2 => ?_)
  have hv := hv x2 e2 g2
  refine r_isub (z := (p0 - x2)) hx hb dJ6_bitCount_0f7a4_8 rfl ?_
  refine lv_istore_n (lv' := [(0, .int (iI (p0 - x2)))]) hx hb dJ6_bitCount_0f7a4_9 rfl hl (by decide) rfl (fun ls hl => ?_)
  refine lv_iload_n hx hb dJ6_bitCount_0f7a4_10 rfl (lv_at hl 0 rfl) ?_
  refine r_ldcw (z := 858993459) hx hb hC ct_J6_266 (by decide +kernel) dJ6_bitCount_0f7a4_11 ?_
  refine r_iandF hx hb dJ6_bitCount_0f7a4_14 (fun x3 e3 g3 => ?_)
  have hv := hv x3 e3 g3
  refine lv_iload_n hx hb dJ6_bitCount_0f7a4_15 rfl (lv_at hl 0 rfl) ?_
  refine r_iconst hx hb dJ6_bitCount_0f7a4_16 ?_
  refine r_iushrF hx hb dJ6_bitCount_0f7a4_17 (fun x4 e4 g4 => ?_)
  have hv := hv x4 e4 g4
  refine r_ldcw (z := 858993459) hx hb hC ct_J6_266 (by decide +kernel) dJ6_bitCount_0f7a4_18 ?_
  refine r_iandF hx hb dJ6_bitCount_0f7a4_21 (fun x5 e5 g5 => ?_)
  have hv := hv x5 e5 g5
  refine r_iadd (z := (x3 + x5)) hx hb dJ6_bitCount_0f7a4_22 rfl ?_
  refine lv_istore_n (lv' := [(0, .int (iI (x3 + x5)))]) hx hb dJ6_bitCount_0f7a4_23 rfl hl (by decide) rfl (fun ls hl => ?_)
  refine lv_iload_n hx hb dJ6_bitCount_0f7a4_24 rfl (lv_at hl 0 rfl) ?_
  refine lv_iload_n hx hb dJ6_bitCount_0f7a4_25 rfl (lv_at hl 0 rfl) ?_
  refine r_iconst hx hb dJ6_bitCount_0f7a4_26 ?_
  refine r_iushrF hx hb dJ6_bitCount_0f7a4_27 (fun x6 e6 g6 => ?_)
  have hv := hv x6 e6 g6
  refine r_iadd (z := ((x3 + x5) + x6)) hx hb dJ6_bitCount_0f7a4_28 rfl ?_
  refine r_ldcw (z := 252645135) hx hb hC ct_J6_267 (by decide +kernel) dJ6_bitCount_0f7a4_29 ?_
  refine r_iandF hx hb dJ6_bitCount_0f7a4_32 (fun x7 e7 g7 => ?_)
  have hv := hv x7 e7 g7
  refine lv_istore_n (lv' := [(0, .int (iI x7))]) hx hb dJ6_bitCount_0f7a4_33 rfl hl (by decide) rfl (fun ls hl => ?_)
  refine lv_iload_n hx hb dJ6_bitCount_0f7a4_34 rfl (lv_at hl 0 rfl) ?_
  refine lv_iload_n hx hb dJ6_bitCount_0f7a4_35 rfl (lv_at hl 0 rfl) ?_
  refine r_bipush hx hb dJ6_bitCount_0f7a4_36 (by decide +kernel) ?_
  refine r_iushrF hx hb dJ6_bitCount_0f7a4_38 (fun x8 e8 g8 => ?_)
  have hv := hv x8 e8 g8
  refine r_iadd (z := (x7 + x8)) hx hb dJ6_bitCount_0f7a4_39 rfl ?_
  refine lv_istore_n (lv' := [(0, .int (iI (x7 + x8)))]) hx hb dJ6_bitCount_0f7a4_40 rfl hl (by decide) rfl (fun ls hl => ?_)
  refine lv_iload_n hx hb dJ6_bitCount_0f7a4_41 rfl (lv_at hl 0 rfl) ?_
  refine lv_iload_n hx hb dJ6_bitCount_0f7a4_42 rfl (lv_at hl 0 rfl) ?_
  refine r_bipush hx hb dJ6_bitCount_0f7a4_43 (by decide +kernel) ?_
  refine r_iushrF hx hb dJ6_bitCount_0f7a4_45 (fun x9 e9 g9 => ?_)
  have hv := hv x9 e9 g9
  refine r_iadd (z := ((x7 + x8) + x9)) hx hb dJ6_bitCount_0f7a4_46 rfl ?_
  refine lv_istore_n (lv' := [(0, .int (iI ((x7 + x8) + x9)))]) hx hb dJ6_bitCount_0f7a4_47 rfl hl (by decide) rfl (fun ls hl => ?_)
  refine lv_iload_n hx hb dJ6_bitCount_0f7a4_48 rfl (lv_at hl 0 rfl) ?_
  refine r_bipush hx hb dJ6_bitCount_0f7a4_49 (by decide +kernel) ?_
  refine r_iandF hx hb dJ6_bitCount_0f7a4_51 (fun x10 e10 g10 => ?_)
  have hv := hv x10 e10 g10
  exact k_iret (wq_X τ ad) hx hb hr hlk hw hM g10 hv dJ6_bitCount_0f7a4_52
set_option maxHeartbeats 4000000 in
set_option maxRecDepth 100000 in
theorem mX2_uses (l : Launch) (D : va_G) (τ : Nat → ClassId) (ad : Nat → Nat) (sA sV : Nat → Nat) (sz : Nat) (k0 : Nat) (p1 : Int) (hk0 : isL k0) (hp1 : iR p1) (M : Mem) (hM : MR M) (Q : Int → Mem → Prop) (hv : qX2_uses k0 p1 M Q) : Met l yX2_uses (lw_w yX2_uses cX2_uses 2 (some .boolean)) (rmk 1 0 0) (kPc D τ sA sV (WX τ ad M) sz [.ref (ad k0), .int (iI p1)]) (gQi D (EQz (WX τ ad) MR Q) (va_A (WX τ ad M) sz)) 0 0 (va_A (WX τ ad M) sz) := by
  refine k_met (ret := (some .boolean)) (Qc := gQi D (EQz (WX τ ad) MR Q)) (by decide +kernel) (Nat.le_of_ble_eq_true rfl) ?_
  intro p e s m args below meth c A ls hx hb hml hr hlk hnm hC hLS hA hw hl
  have hC : cx D τ s m args RX2 := hC
  have hl : lv_has ls 2 [(0, .ref (ad k0)), (1, .int (iI p1))] := hl
  unfold qX2_uses at hv
  refine lv_aload_n hx hb dX2_uses_0 rfl (lv_at hl 0 rfl) ?_
  refine gf_X2_28 hx hb hC hw k0 (gL_X hk0 τ ad M) rfl dX2_uses_1 ?_
  refine r_top (fun x1 e1 => ?_)
  have g1 : iR x1 := by rw [e1]; exact hM.get hk0.pos _
  have hv := hv x1 e1 g1
  refine lv_iload_n hx hb dX2_uses_4 rfl (lv_at hl 1 rfl) ?_
  refine r_ishrF hx hb dX2_uses_5 (fun x2 e2 g2 => ?_)
  have hv := hv x2 e2 g2
  refine r_iconst hx hb dX2_uses_6 ?_
  refine r_iandF hx hb dX2_uses_7 (fun x3 e3 g3 => ?_)
  have hv := hv x3 e3 g3
  refine r_iconst hx hb dX2_uses_8 ?_
  refine r_icmp_ne (tgt := 16) hx hb dX2_uses_9 (by decide) g3 (by decide) (fun b4 => ?_) (fun b4 => ?_)
  · have hv := hv.1 b4
    refine r_iconst hx hb dX2_uses_16 ?_
    exact k_zret (wq_X τ ad) hx hb hr hlk hw hM (by decide) (by decide) hv dX2_uses_17
  · have hv := hv.2 b4
    refine r_iconst hx hb dX2_uses_12 ?_
    refine lv_goto (tgt := 17) hx hb dX2_uses_13 (by decide) ?_
    exact k_zret (wq_X τ ad) hx hb hr hlk hw hM (by decide) (by decide) hv dX2_uses_17
set_option maxHeartbeats 4000000 in
set_option maxRecDepth 100000 in
theorem mX6_bitsOf (l : Launch) (D : va_G) (τ : Nat → ClassId) (ad : Nat → Nat) (sA sV : Nat → Nat) (sz : Nat) (k0 : Nat) (k1 : Nat) (p2 : Int) (hk0 : isS k0) (hk1 : XI 8 k1) (hp2 : iR p2) (M : Mem) (hM : MR M) (Q : Int → Mem → Prop) (hv : qX6_bitsOf k0 k1 p2 M Q) : Met l yX6_bitsOf (lw_w yX6_bitsOf cX6_bitsOf 5 (some .int)) (rmk 1 0 0) (kPc D τ sA sV (WX τ ad M) sz [.ref (ad k0), .ref (ad k1), .int (iI p2)]) (gQi D (EQi (WX τ ad) MR Q) (va_A (WX τ ad M) sz)) 0 0 (va_A (WX τ ad M) sz) := by
  refine k_met (ret := (some .int)) (Qc := gQi D (EQi (WX τ ad) MR Q)) (by decide +kernel) (Nat.le_of_ble_eq_true rfl) ?_
  intro p e s m args below meth c A ls hx hb hml hr hlk hnm hC hLS hA hw hl
  have hC : cx D τ s m args RX6 := hC
  have hl : lv_has ls 5 [(0, .ref (ad k0)), (1, .ref (ad k1)), (2, .int (iI p2))] := hl
  unfold qX6_bitsOf at hv
  have L5 : ∀ (n : Nat) (v3 : Int) (v4 : Int) (M : Mem) (H : Heap) (locs : List Loc) (ls : Array Slot), MR M → qX6_bitsOf_L5 k0 k1 p2  Q n v3 v4 M → wS D A s.heap (WX τ ad M) H locs → lv_has ls 5 [(0, .ref (ad k0)), (1, .ref (ad k1)), (2, .int (iI p2)), (3, .int (iI v3)), (4, .int (iI v4))] → W p l e (rmk 1 0 0) s m args below meth c H locs 0 0 (MQ below (gQi D (EQi (WX τ ad) MR Q) A) args s 0 0 A) (F0 m 5 ls []) := by
    intro n
    induction n with
    | zero => intro v3 v4 M H locs ls hM hv; rw [qX6_bitsOf_L5] at hv; exact hv.elim
    | succ n ih =>
      intro v3 v4 M H locs ls hM hv hw hl
      rw [qX6_bitsOf_L5] at hv
      refine lv_iload hx hb dX6_bitsOf_5 (lv_at hl 4 rfl) ?_
      refine lv_aload_n hx hb dX6_bitsOf_7 rfl (lv_at hl 0 rfl) ?_
      refine gf_X6_34 hx hb hC hw k0 (gS_X hk0 τ ad M) rfl dX6_bitsOf_8 ?_
      refine r_top (fun x1 e1 => ?_)
      have g1 : iR x1 := by rw [e1]; exact hM.get hk0.pos _
      have hv := hv x1 e1 g1
      obtain ⟨c2, hv⟩ := hv
      refine r_icmp_ge (tgt := 39) hx hb dX6_bitsOf_11 (by decide) c2 g1 (fun b3 => ?_) (fun b3 => ?_)
      · have hv := hv.1 b3
        refine lv_iload_n hx hb dX6_bitsOf_39 rfl (lv_at hl 3 rfl) ?_
        obtain ⟨c4, hv⟩ := hv
        exact k_iret (wq_X τ ad) hx hb hr hlk hw hM c4 hv dX6_bitsOf_40
      · have hv := hv.2 b3
        refine lv_iload_n hx hb dX6_bitsOf_14 rfl (lv_at hl 3 rfl) ?_
        refine lv_aload_n hx hb dX6_bitsOf_15 rfl (lv_at hl 1 rfl) ?_
        refine lv_iload hx hb dX6_bitsOf_16 (lv_at hl 4 rfl) ?_
        obtain ⟨c5, hv⟩ := hv
        obtain ⟨c6, hv⟩ := hv
        refine r_iald hx hb hC hw k1 (gI_X hk1 τ ad M) c5 c6 (by decide) dX6_bitsOf_18 ?_
        refine r_top (fun x7 e7 => ?_)
        have g7 : iR x7 := by rw [e7]; exact hM.get hk1.pos _
        have hv := hv x7 e7 g7
        refine lv_iload_n hx hb dX6_bitsOf_19 rfl (lv_at hl 2 rfl) ?_
        refine r_icmp_ne (tgt := 30) hx hb dX6_bitsOf_20 (by decide) g7 hp2 (fun b8 => ?_) (fun b8 => ?_)
        · have hv := hv.1 b8
          refine r_iconst hx hb dX6_bitsOf_30 ?_
          refine r_iorF hx hb dX6_bitsOf_31 (fun x9 e9 g9 => ?_)
          have hv := hv x9 e9 g9
          refine lv_istore_n (lv' := [(3, .int (iI x9)), (0, .ref (ad k0)), (1, .ref (ad k1)), (2, .int (iI p2)), (4, .int (iI v4))]) hx hb dX6_bitsOf_32 rfl hl (by decide) rfl (fun ls hl => ?_)
          refine r_iinc (v := (v4 + 1)) (lv' := [(4, .int (iI (v4 + 1))), (3, .int (iI x9)), (0, .ref (ad k0)), (1, .ref (ad k1)), (2, .int (iI p2))]) hx hb dX6_bitsOf_33 hl (k := 4) rfl rfl (by decide) rfl (fun ls hl => ?_)
          refine lv_goto (tgt := 5) hx hb dX6_bitsOf_36 (by decide) ?_
          exact ih x9 (v4 + 1) M _ _ _ hM hv hw (lv_sub hl [2, 3, 4, 1, 0] rfl)
        · have hv := hv.2 b8
          refine r_iconst hx hb dX6_bitsOf_23 ?_
          refine lv_iload hx hb dX6_bitsOf_24 (lv_at hl 4 rfl) ?_
          refine r_ishlF hx hb dX6_bitsOf_26 (fun x10 e10 g10 => ?_)
          have hv := hv x10 e10 g10
          refine lv_goto (tgt := 31) hx hb dX6_bitsOf_27 (by decide) ?_
          refine r_iorF hx hb dX6_bitsOf_31 (fun x11 e11 g11 => ?_)
          have hv := hv x11 e11 g11
          refine lv_istore_n (lv' := [(3, .int (iI x11)), (0, .ref (ad k0)), (1, .ref (ad k1)), (2, .int (iI p2)), (4, .int (iI v4))]) hx hb dX6_bitsOf_32 rfl hl (by decide) rfl (fun ls hl => ?_)
          refine r_iinc (v := (v4 + 1)) (lv' := [(4, .int (iI (v4 + 1))), (3, .int (iI x11)), (0, .ref (ad k0)), (1, .ref (ad k1)), (2, .int (iI p2))]) hx hb dX6_bitsOf_33 hl (k := 4) rfl rfl (by decide) rfl (fun ls hl => ?_)
          refine lv_goto (tgt := 5) hx hb dX6_bitsOf_36 (by decide) ?_
          exact ih x11 (v4 + 1) M _ _ _ hM hv hw (lv_sub hl [2, 3, 4, 1, 0] rfl)
  refine r_iconst hx hb dX6_bitsOf_0 ?_
  refine lv_istore_n (lv' := [(3, .int (iI 0)), (0, .ref (ad k0)), (1, .ref (ad k1)), (2, .int (iI p2))]) hx hb dX6_bitsOf_1 rfl hl (by decide) rfl (fun ls hl => ?_)
  refine r_iconst hx hb dX6_bitsOf_2 ?_
  refine lv_istore (lv' := [(4, .int (iI 0)), (3, .int (iI 0)), (0, .ref (ad k0)), (1, .ref (ad k1)), (2, .int (iI p2))]) hx hb dX6_bitsOf_3 hl (by decide) rfl (fun ls hl => ?_)
  obtain ⟨n12, hv⟩ := hv
  refine L5  n12 0 0 M _ _ _ hM hv hw (lv_sub hl [2, 3, 4, 1, 0] rfl)
set_option maxHeartbeats 4000000 in
set_option maxRecDepth 100000 in
theorem mX6_freeAhead (l : Launch) (D : va_G) (τ : Nat → ClassId) (ad : Nat → Nat) (sA sV : Nat → Nat) (sz : Nat) (k0 : Nat) (p1 : Int) (p2 : Int) (hk0 : isS k0) (hp1 : iR p1) (hp2 : iR p2) (M : Mem) (hM : MR M) (Q : Int → Mem → Prop) (hv : qX6_freeAhead k0 p1 p2 M Q) : Met l yX6_freeAhead (lw_w yX6_freeAhead cX6_freeAhead 7 (some .int)) (rmk 1 0 0) (kPc D τ sA sV (WX τ ad M) sz [.ref (ad k0), .int (iI p1), .int (iI p2)]) (gQi D (EQi (WX τ ad) MR Q) (va_A (WX τ ad M) sz)) 0 0 (va_A (WX τ ad M) sz) := by
  refine k_met (ret := (some .int)) (Qc := gQi D (EQi (WX τ ad) MR Q)) (by decide +kernel) (Nat.le_of_ble_eq_true rfl) ?_
  intro p e s m args below meth c A ls hx hb hml hr hlk hnm hC hLS hA hw hl
  have hC : cx D τ s m args RX6 := hC
  have hl : lv_has ls 7 [(0, .ref (ad k0)), (1, .int (iI p1)), (2, .int (iI p2))] := hl
  unfold qX6_freeAhead at hv
  have L15 : ∀ (n : Nat) (v3 : Int) (v4 : Int) (v5 : Int) (M : Mem) (H : Heap) (locs : List Loc) (ls : Array Slot), MR M → qX6_freeAhead_L15 k0 p1 p2  Q n v3 v4 v5 M → wS D A s.heap (WX τ ad M) H locs → lv_has ls 7 [(0, .ref (ad k0)), (3, .int (iI v3)), (4, .int (iI v4)), (5, .int (iI v5))] → W p l e (rmk 1 0 0) s m args below meth c H locs 0 0 (MQ below (gQi D (EQi (WX τ ad) MR Q) A) args s 0 0 A) (F0 m 15 ls []) := by
    intro n
    induction n with
    | zero => intro v3 v4 v5 M H locs ls hM hv; rw [qX6_freeAhead_L15] at hv; exact hv.elim
    | succ n ih =>
      intro v3 v4 v5 M H locs ls hM hv hw hl
      rw [qX6_freeAhead_L15] at hv
      refine lv_iload hx hb dX6_freeAhead_15 (lv_at hl 3 rfl) ?_
      refine lv_aload_n hx hb dX6_freeAhead_17 rfl (lv_at hl 0 rfl) ?_
      refine gf_X6_30 hx hb hC hw k0 (gS_X hk0 τ ad M) rfl dX6_freeAhead_18 ?_
      refine r_top (fun x4 e4 => ?_)
      have g4 : iR x4 := by rw [e4]; exact hM.get hk0.pos _
      have hv := hv x4 e4 g4
      obtain ⟨c5, hv⟩ := hv
      refine r_icmp_ge (tgt := 64) hx hb dX6_freeAhead_21 (by decide) c5 g4 (fun b6 => ?_) (fun b6 => ?_)
      · have hv := hv.1 b6
        refine lv_iload hx hb dX6_freeAhead_64 (lv_at hl 2 rfl) ?_
        obtain ⟨c7, hv⟩ := hv
        exact k_iret (wq_X τ ad) hx hb hr hlk hw hM c7 hv dX6_freeAhead_66
      · have hv := hv.2 b6
        refine lv_aload_n hx hb dX6_freeAhead_24 rfl (lv_at hl 0 rfl) ?_
        refine gf_X6_9 hx hb hC hw k0 (gS_X hk0 τ ad M) rfl dX6_freeAhead_25 ?_
        refine lv_iload hx hb dX6_freeAhead_28 (lv_at hl 3 rfl) ?_
        obtain ⟨c8, hv⟩ := hv
        obtain ⟨c9, hv⟩ := hv
        refine r_iald hx hb hC hw (k0 + 1) (gI_X (isS_f0 hk0) τ ad M) c8 c9 (by decide) dX6_freeAhead_30 ?_
        refine r_top (fun x10 e10 => ?_)
        have g10 : iR x10 := by rw [e10]; exact hM.get (isS_f0 hk0).pos _
        have hv := hv x10 e10 g10
        refine lv_iload_n hx hb dX6_freeAhead_31 rfl (lv_at hl 1 rfl) ?_
        refine r_isub (z := (x10 - v3)) hx hb dX6_freeAhead_32 rfl ?_
        refine r_iconst hx hb dX6_freeAhead_33 ?_
        refine r_isub (z := ((x10 - v3) - 1)) hx hb dX6_freeAhead_34 rfl ?_
        refine lv_istore (lv' := [(6, .int (iI ((x10 - v3) - 1))), (0, .ref (ad k0)), (3, .int (iI v3)), (4, .int (iI v4)), (5, .int (iI v5))]) hx hb dX6_freeAhead_35 hl (by decide) rfl (fun ls hl => ?_)
        refine lv_iload hx hb dX6_freeAhead_37 (lv_at hl 0 rfl) ?_
        obtain ⟨c11, hv⟩ := hv
        refine r_if_lt (tgt := 54) hx hb dX6_freeAhead_39 (by decide) c11  (fun b12 => ?_) (fun b12 => ?_)
        · have hv := hv.1 b12
          refine lv_iload hx hb dX6_freeAhead_54 (lv_at hl 3 rfl) ?_
          refine lv_istore (lv' := [(4, .int (iI v4)), (6, .int (iI ((x10 - v3) - 1))), (0, .ref (ad k0)), (3, .int (iI v3)), (5, .int (iI v5))]) hx hb dX6_freeAhead_56 hl (by decide) rfl (fun ls hl => ?_)
          refine r_iinc (v := (v5 + 1)) (lv' := [(5, .int (iI (v5 + 1))), (4, .int (iI v4)), (6, .int (iI ((x10 - v3) - 1))), (0, .ref (ad k0)), (3, .int (iI v3))]) hx hb dX6_freeAhead_58 hl (k := 4) rfl rfl (by decide) rfl (fun ls hl => ?_)
          refine lv_goto (tgt := 15) hx hb dX6_freeAhead_61 (by decide) ?_
          exact ih v3 v4 (v5 + 1) M _ _ _ hM hv hw (lv_sub hl [3, 4, 1, 0] rfl)
        · have hv := hv.2 b12
          refine lv_iload hx hb dX6_freeAhead_42 (lv_at hl 0 rfl) ?_
          refine lv_iload hx hb dX6_freeAhead_44 (lv_at hl 3 rfl) ?_
          obtain ⟨c13, hv⟩ := hv
          refine r_icmp_ge (tgt := 54) hx hb dX6_freeAhead_46 (by decide) c11 c13 (fun b14 => ?_) (fun b14 => ?_)
          · have hv := hv.1 b14
            refine lv_iload hx hb dX6_freeAhead_54 (lv_at hl 3 rfl) ?_
            refine lv_istore (lv' := [(4, .int (iI v4)), (6, .int (iI ((x10 - v3) - 1))), (0, .ref (ad k0)), (3, .int (iI v3)), (5, .int (iI v5))]) hx hb dX6_freeAhead_56 hl (by decide) rfl (fun ls hl => ?_)
            refine r_iinc (v := (v5 + 1)) (lv' := [(5, .int (iI (v5 + 1))), (4, .int (iI v4)), (6, .int (iI ((x10 - v3) - 1))), (0, .ref (ad k0)), (3, .int (iI v3))]) hx hb dX6_freeAhead_58 hl (k := 4) rfl rfl (by decide) rfl (fun ls hl => ?_)
            refine lv_goto (tgt := 15) hx hb dX6_freeAhead_61 (by decide) ?_
            exact ih v3 v4 (v5 + 1) M _ _ _ hM hv hw (lv_sub hl [3, 4, 1, 0] rfl)
          · have hv := hv.2 b14
            refine lv_iload hx hb dX6_freeAhead_49 (lv_at hl 0 rfl) ?_
            refine lv_goto (tgt := 56) hx hb dX6_freeAhead_51 (by decide) ?_
            refine lv_istore (lv' := [(4, .int (iI ((x10 - v3) - 1))), (6, .int (iI ((x10 - v3) - 1))), (0, .ref (ad k0)), (3, .int (iI v3)), (5, .int (iI v5))]) hx hb dX6_freeAhead_56 hl (by decide) rfl (fun ls hl => ?_)
            refine r_iinc (v := (v5 + 1)) (lv' := [(5, .int (iI (v5 + 1))), (4, .int (iI ((x10 - v3) - 1))), (6, .int (iI ((x10 - v3) - 1))), (0, .ref (ad k0)), (3, .int (iI v3))]) hx hb dX6_freeAhead_58 hl (k := 4) rfl rfl (by decide) rfl (fun ls hl => ?_)
            refine lv_goto (tgt := 15) hx hb dX6_freeAhead_61 (by decide) ?_
            exact ih v3 ((x10 - v3) - 1) (v5 + 1) M _ _ _ hM hv hw (lv_sub hl [3, 4, 1, 0] rfl)
  refine lv_aload_n hx hb dX6_freeAhead_0 rfl (lv_at hl 0 rfl) ?_
  refine gf_X6_9 hx hb hC hw k0 (gS_X hk0 τ ad M) rfl dX6_freeAhead_1 ?_
  refine lv_iload_n hx hb dX6_freeAhead_4 rfl (lv_at hl 1 rfl) ?_
  obtain ⟨c1, hv⟩ := hv
  obtain ⟨c2, hv⟩ := hv
  refine r_iald hx hb hC hw (k0 + 1) (gI_X (isS_f0 hk0) τ ad M) c1 c2 (by decide) dX6_freeAhead_5 ?_
  refine r_top (fun x3 e3 => ?_)
  have g3 : iR x3 := by rw [e3]; exact hM.get (isS_f0 hk0).pos _
  have hv := hv x3 e3 g3
  refine lv_istore_n (lv' := [(3, .int (iI x3)), (0, .ref (ad k0)), (1, .int (iI p1)), (2, .int (iI p2))]) hx hb dX6_freeAhead_6 rfl hl (by decide) rfl (fun ls hl => ?_)
  refine lv_iload_n hx hb dX6_freeAhead_7 rfl (lv_at hl 3 rfl) ?_
  refine lv_iload_n hx hb dX6_freeAhead_8 rfl (lv_at hl 0 rfl) ?_
  refine r_isub (z := (p2 - x3)) hx hb dX6_freeAhead_9 rfl ?_
  refine lv_istore (lv' := [(4, .int (iI (p2 - x3))), (3, .int (iI x3)), (0, .ref (ad k0)), (1, .int (iI p1)), (2, .int (iI p2))]) hx hb dX6_freeAhead_10 hl (by decide) rfl (fun ls hl => ?_)
  refine r_iconst hx hb dX6_freeAhead_12 ?_
  refine lv_istore (lv' := [(5, .int (iI 0)), (4, .int (iI (p2 - x3))), (3, .int (iI x3)), (0, .ref (ad k0)), (1, .int (iI p1)), (2, .int (iI p2))]) hx hb dX6_freeAhead_13 hl (by decide) rfl (fun ls hl => ?_)
  obtain ⟨n15, hv⟩ := hv
  refine L15  n15 x3 (p2 - x3) 0 M _ _ _ hM hv hw (lv_sub hl [3, 2, 1, 0] rfl)
set_option maxHeartbeats 4000000 in
set_option maxRecDepth 100000 in
theorem mX8_isCorner (l : Launch) (D : va_G) (τ : Nat → ClassId) (ad : Nat → Nat) (sA sV : Nat → Nat) (sz : Nat) (p1 : Int) (hp1 : iR p1) (M : Mem) (hM : MR M) (Q : Int → Mem → Prop) (hv : qX8_isCorner p1 M Q) : Met l yX8_isCorner (lw_w yX8_isCorner cX8_isCorner 2 (some .boolean)) (rmk 1 0 0) (kPc D τ sA sV (WX τ ad M) sz [.ref (ad 158), .int (iI p1)]) (gQi D (EQz (WX τ ad) MR Q) (va_A (WX τ ad M) sz)) 0 0 (va_A (WX τ ad M) sz) := by
  refine k_met (ret := (some .boolean)) (Qc := gQi D (EQz (WX τ ad) MR Q)) (by decide +kernel) (Nat.le_of_ble_eq_true rfl) ?_
  intro p e s m args below meth c A ls hx hb hml hr hlk hnm hC hLS hA hw hl
  have hC : cx D τ s m args RX8 := hC
  have hl : lv_has ls 2 [(0, .ref (ad 158)), (1, .int (iI p1))] := hl
  unfold qX8_isCorner at hv
  refine lv_aload_n hx hb dX8_isCorner_0 rfl (lv_at hl 0 rfl) ?_
  refine gf_X8_19 hx hb hC hw 158 (gX_158 τ ad M) rfl dX8_isCorner_1 ?_
  refine r_top (fun x1 e1 => ?_)
  have g1 : iR x1 := by rw [e1]; exact hM.get (by decide) _
  have hv := hv x1 e1 g1
  refine lv_iload_n hx hb dX8_isCorner_4 rfl (lv_at hl 1 rfl) ?_
  refine r_ishrF hx hb dX8_isCorner_5 (fun x2 e2 g2 => ?_)
  have hv := hv x2 e2 g2
  refine r_iconst hx hb dX8_isCorner_6 ?_
  refine r_iandF hx hb dX8_isCorner_7 (fun x3 e3 g3 => ?_)
  have hv := hv x3 e3 g3
  refine r_iconst hx hb dX8_isCorner_8 ?_
  refine r_icmp_ne (tgt := 16) hx hb dX8_isCorner_9 (by decide) g3 (by decide) (fun b4 => ?_) (fun b4 => ?_)
  · have hv := hv.1 b4
    refine r_iconst hx hb dX8_isCorner_16 ?_
    exact k_zret (wq_X τ ad) hx hb hr hlk hw hM (by decide) (by decide) hv dX8_isCorner_17
  · have hv := hv.2 b4
    refine r_iconst hx hb dX8_isCorner_12 ?_
    refine lv_goto (tgt := 17) hx hb dX8_isCorner_13 (by decide) ?_
    exact k_zret (wq_X τ ad) hx hb hr hlk hw hM (by decide) (by decide) hv dX8_isCorner_17
set_option maxHeartbeats 4000000 in
set_option maxRecDepth 100000 in
theorem mX8_weatherAt (l : Launch) (D : va_G) (τ : Nat → ClassId) (ad : Nat → Nat) (sA sV : Nat → Nat) (sz : Nat) (p1 : Int) (hp1 : iR p1) (M : Mem) (hM : MR M) (Q : Int → Mem → Prop) (hv : qX8_weatherAt p1 M Q) : Met l yX8_weatherAt (lw_w yX8_weatherAt cX8_weatherAt 2 (some .int)) (rmk 1 0 0) (kPc D τ sA sV (WX τ ad M) sz [.ref (ad 158), .int (iI p1)]) (gQi D (EQi (WX τ ad) MR Q) (va_A (WX τ ad M) sz)) 0 0 (va_A (WX τ ad M) sz) := by
  refine k_met (ret := (some .int)) (Qc := gQi D (EQi (WX τ ad) MR Q)) (by decide +kernel) (Nat.le_of_ble_eq_true rfl) ?_
  intro p e s m args below meth c A ls hx hb hml hr hlk hnm hC hLS hA hw hl
  have hC : cx D τ s m args RX8 := hC
  have hl : lv_has ls 2 [(0, .ref (ad 158)), (1, .int (iI p1))] := hl
  unfold qX8_weatherAt at hv
  refine lv_aload_n hx hb dX8_weatherAt_0 rfl (lv_at hl 0 rfl) ?_
  refine gf_X8_22 hx hb hC hw 158 (gX_158 τ ad M) rfl dX8_weatherAt_1 ?_
  refine r_top (fun x1 e1 => ?_)
  have g1 : iR x1 := by rw [e1]; exact hM.get (by decide) _
  have hv := hv x1 e1 g1
  refine r_iconst hx hb dX8_weatherAt_4 ?_
  refine r_icmp_lt (tgt := 12) hx hb dX8_weatherAt_5 (by decide) g1 (by decide) (fun b2 => ?_) (fun b2 => ?_)
  · have hv := hv.1 b2
    refine r_iconst hx hb dX8_weatherAt_12 ?_
    refine lv_goto (tgt := 27) hx hb dX8_weatherAt_13 (by decide) ?_
    exact k_iret (wq_X τ ad) hx hb hr hlk hw hM (by decide) hv dX8_weatherAt_27
  · have hv := hv.2 b2
    refine lv_iload_n hx hb dX8_weatherAt_8 rfl (lv_at hl 1 rfl) ?_
    refine r_if_ge (tgt := 16) hx hb dX8_weatherAt_9 (by decide) hp1  (fun b3 => ?_) (fun b3 => ?_)
    · have hv := hv.1 b3
      refine lv_aload_n hx hb dX8_weatherAt_16 rfl (lv_at hl 0 rfl) ?_
      refine gf_X8_9 hx hb hC hw 158 (gX_158 τ ad M) rfl dX8_weatherAt_17 ?_
      refine lv_iload_n hx hb dX8_weatherAt_20 rfl (lv_at hl 1 rfl) ?_
      refine lv_aload_n hx hb dX8_weatherAt_21 rfl (lv_at hl 0 rfl) ?_
      refine gf_X8_22 hx hb hC hw 158 (gX_158 τ ad M) rfl dX8_weatherAt_22 ?_
      refine r_top (fun x4 e4 => ?_)
      have g4 : iR x4 := by rw [e4]; exact hM.get (by decide) _
      have hv := hv x4 e4 g4
      obtain ⟨c5, hv⟩ := hv
      refine r_iremF hx hb dX8_weatherAt_25 g4 c5 (fun x6 e6 g6 => ?_)
      have hv := hv x6 e6 g6
      obtain ⟨c7, hv⟩ := hv
      obtain ⟨c8, hv⟩ := hv
      refine r_iald hx hb hC hw 159 (gI_X aX_159 τ ad M) c7 c8 (by decide) dX8_weatherAt_26 ?_
      refine r_top (fun x9 e9 => ?_)
      have g9 : iR x9 := by rw [e9]; exact hM.get aX_159.pos _
      have hv := hv x9 e9 g9
      exact k_iret (wq_X τ ad) hx hb hr hlk hw hM g9 hv dX8_weatherAt_27
    · have hv := hv.2 b3
      refine r_iconst hx hb dX8_weatherAt_12 ?_
      refine lv_goto (tgt := 27) hx hb dX8_weatherAt_13 (by decide) ?_
      exact k_iret (wq_X τ ad) hx hb hr hlk hw hM (by decide) hv dX8_weatherAt_27
set_option maxHeartbeats 4000000 in
set_option maxRecDepth 100000 in
theorem mX2_observe (l : Launch) (D : va_G) (τ : Nat → ClassId) (ad : Nat → Nat) (sA sV : Nat → Nat) (sz : Nat) (k0 : Nat) (k1 : Nat) (p3 : Int) (hk0 : isL k0) (hk1 : isS k1) (hp3 : iR p3) (M : Mem) (hM : MR M) (Q : Mem → Prop) (hv : qX2_observe k0 k1 p3 M Q) : Met l yX2_observe (lw_w yX2_observe cX2_observe 4 none) (rmk 2 0 0) (kPc D τ sA sV (WX τ ad M) sz [.ref (ad k0), .ref (ad k1), .ref (ad 158), .int (iI p3)]) (gQv D (EQv (WX τ ad) MR Q) (va_A (WX τ ad M) sz)) 0 0 (va_A (WX τ ad M) sz) := by
  refine k_met (ret := none) (Qc := gQv D (EQv (WX τ ad) MR Q)) (by decide +kernel) (Nat.le_of_ble_eq_true rfl) ?_
  intro p e s m args below meth c A ls hx hb hml hr hlk hnm hC hLS hA hw hl
  have hC : cx D τ s m args RX2 := hC
  have hl : lv_has ls 4 [(0, .ref (ad k0)), (1, .ref (ad k1)), (2, .ref (ad 158)), (3, .int (iI p3))] := hl
  unfold qX2_observe at hv
  have J128 : ∀ (t0 : Int) (t1 : Int) (M : Mem) (H : Heap) (locs : List Loc) (ls : Array Slot), MR M → qX2_observe_J128 k0 k1 p3 Q t0 t1 M → wS D A s.heap (WX τ ad M) H locs → lv_has ls 4 [] → W p l e (rmk 2 0 0) s m args below meth c H locs 0 0 (MQ below (gQv D (EQv (WX τ ad) MR Q) A) args s 0 0 A) (F0 m 128 ls [.int (iI t0), .int (iI t1), .ref (ad (k0 + 4))]) := by
    intro t0 t1 M H locs ls hM hv hw hl
    unfold qX2_observe_J128 at hv
    obtain ⟨c29, hv⟩ := hv
    obtain ⟨c30, hv⟩ := hv
    obtain ⟨c31, hv⟩ := hv
    obtain ⟨M32, e32⟩ : ∃ M32 : Mem, M32 = up2 M (k0 + 4) t1 t0 := ⟨_, rfl⟩
    have hv := hv M32 e32
    refine r_iast (ws' := (WX τ ad M32)) hx hb hC hw (k0 + 4) (gI_X (isL_f3 hk0) τ ad M) c29 c30 (by decide) (by rw [e32]; exact sI_X (isL_f3 hk0) τ ad M _ _) dX2_observe_128 (fun H locs hw => ?_)
    have hM : MR M32 := by rw [e32]; exact hM.put (isL_f3 hk0).pos c31
    exact k_vret (wq_X τ ad) hx hb hr hlk hw hM hv dX2_observe_129
  have J62 : ∀ (t0 : Int) (t1 : Int) (M : Mem) (H : Heap) (locs : List Loc) (ls : Array Slot), MR M → qX2_observe_J62 k0 k1 p3 Q t0 t1 M → wS D A s.heap (WX τ ad M) H locs → lv_has ls 4 [(0, .ref (ad k0)), (1, .ref (ad k1)), (2, .ref (ad 158)), (3, .int (iI p3))] → W p l e (rmk 2 0 0) s m args below meth c H locs 0 0 (MQ below (gQv D (EQv (WX τ ad) MR Q) A) args s 0 0 A) (F0 m 62 ls [.int (iI t0), .int (iI t1), .ref (ad (k0 + 4))]) := by
    intro t0 t1 M H locs ls hM hv hw hl
    unfold qX2_observe_J62 at hv
    obtain ⟨c16, hv⟩ := hv
    obtain ⟨c17, hv⟩ := hv
    obtain ⟨c18, hv⟩ := hv
    obtain ⟨M19, e19⟩ : ∃ M19 : Mem, M19 = up2 M (k0 + 4) t1 t0 := ⟨_, rfl⟩
    have hv := hv M19 e19
    refine r_iast (ws' := (WX τ ad M19)) hx hb hC hw (k0 + 4) (gI_X (isL_f3 hk0) τ ad M) c16 c17 (by decide) (by rw [e19]; exact sI_X (isL_f3 hk0) τ ad M _ _) dX2_observe_62 (fun H locs hw => ?_)
    have hM : MR M19 := by rw [e19]; exact hM.put (isL_f3 hk0).pos c18
    refine lv_aload_n hx hb dX2_observe_63 rfl (lv_at hl 0 rfl) ?_
    refine gf_X2_21 hx hb hC hw k0 (gL_X hk0 τ ad M19) rfl dX2_observe_64 ?_
    refine r_iconst hx hb dX2_observe_67 ?_
    refine lv_aload_n hx hb dX2_observe_68 rfl (lv_at hl 2 rfl) ?_
    refine lv_aload_n hx hb dX2_observe_69 rfl (lv_at hl 1 rfl) ?_
    refine gf_X2_67 hx hb hC hw k1 (gS_X hk1 τ ad M19) rfl dX2_observe_70 ?_
    refine r_top (fun x20 e20 => ?_)
    have g20 : iR x20 := by rw [e20]; exact hM.get hk1.pos _
    have hv := hv x20 e20 g20
    refine k_cVi (wq_X τ ad) hx hb hml hC hLS hA hw hl.1 (mX8_weatherAt l D τ ad sA sV _ x20 g20 M19 hM _ hv) kX8_weatherAt ml_X2_70 rfl (gX_158 τ ad M19) rfl rfl (Nat.le_of_ble_eq_true rfl) (rm_ok (by decide) (by decide)) ⟨Nat.zero_le _, Nat.zero_le _⟩ dX2_observe_73 (fun x21 M21 H locs g21 hM hv hw => ?_)
    have hv := hv g21
    obtain ⟨M22, e22⟩ : ∃ M22 : Mem, M22 = up2 M21 (k0 + 4) 3 x21 := ⟨_, rfl⟩
    have hv := hv M22 e22
    refine r_iast (ws' := (WX τ ad M22)) hx hb hC hw (k0 + 4) (gI_X (isL_f3 hk0) τ ad M21) (by decide) (by decide) (by decide) (by rw [e22]; exact sI_X (isL_f3 hk0) τ ad M21 _ _) dX2_observe_76 (fun H locs hw => ?_)
    have hM : MR M22 := by rw [e22]; exact hM.put (isL_f3 hk0).pos g21
    refine lv_aload_n hx hb dX2_observe_77 rfl (lv_at hl 0 rfl) ?_
    refine gf_X2_21 hx hb hC hw k0 (gL_X hk0 τ ad M22) rfl dX2_observe_78 ?_
    refine r_iconst hx hb dX2_observe_81 ?_
    refine lv_aload_n hx hb dX2_observe_82 rfl (lv_at hl 1 rfl) ?_
    refine gf_X2_67 hx hb hC hw k1 (gS_X hk1 τ ad M22) rfl dX2_observe_83 ?_
    refine r_top (fun x23 e23 => ?_)
    have g23 : iR x23 := by rw [e23]; exact hM.get hk1.pos _
    have hv := hv x23 e23 g23
    refine r_bipush hx hb dX2_observe_86 (by decide +kernel) ?_
    refine r_iremF hx hb dX2_observe_88 (by decide) (by decide) (fun x24 e24 g24 => ?_)
    have hv := hv x24 e24 g24
    obtain ⟨M25, e25⟩ : ∃ M25 : Mem, M25 = up2 M22 (k0 + 4) 4 x24 := ⟨_, rfl⟩
    have hv := hv M25 e25
    refine r_iast (ws' := (WX τ ad M25)) hx hb hC hw (k0 + 4) (gI_X (isL_f3 hk0) τ ad M22) (by decide) (by decide) (by decide) (by rw [e25]; exact sI_X (isL_f3 hk0) τ ad M22 _ _) dX2_observe_89 (fun H locs hw => ?_)
    have hM : MR M25 := by rw [e25]; exact hM.put (isL_f3 hk0).pos g24
    refine lv_aload_n hx hb dX2_observe_90 rfl (lv_at hl 0 rfl) ?_
    refine gf_X2_21 hx hb hC hw k0 (gL_X hk0 τ ad M25) rfl dX2_observe_91 ?_
    refine r_iconst hx hb dX2_observe_94 ?_
    refine lv_iload_n hx hb dX2_observe_95 rfl (lv_at hl 3 rfl) ?_
    obtain ⟨M26, e26⟩ : ∃ M26 : Mem, M26 = up2 M25 (k0 + 4) 5 p3 := ⟨_, rfl⟩
    have hv := hv M26 e26
    refine r_iast (ws' := (WX τ ad M26)) hx hb hC hw (k0 + 4) (gI_X (isL_f3 hk0) τ ad M25) (by decide) (by decide) (by decide) (by rw [e26]; exact sI_X (isL_f3 hk0) τ ad M25 _ _) dX2_observe_96 (fun H locs hw => ?_)
    have hM : MR M26 := by rw [e26]; exact hM.put (isL_f3 hk0).pos hp3
    refine lv_aload_n hx hb dX2_observe_97 rfl (lv_at hl 0 rfl) ?_
    refine gf_X2_21 hx hb hC hw k0 (gL_X hk0 τ ad M26) rfl dX2_observe_98 ?_
    refine r_bipush hx hb dX2_observe_101 (by decide +kernel) ?_
    refine lv_aload_n hx hb dX2_observe_103 rfl (lv_at hl 0 rfl) ?_
    refine r_bipush hx hb dX2_observe_104 (by decide +kernel) ?_
    refine k_cVz (wq_X τ ad) hx hb hml hC hLS hA hw hl.1 (mX2_uses l D τ ad sA sV _ k0 6 hk0 (by decide) M26 hM _ hv) kX2_uses ml_X2_42 rfl (gL_X hk0 τ ad M26) rfl rfl (Nat.le_of_ble_eq_true rfl) (rm_ok (by decide) (by decide)) ⟨Nat.zero_le _, Nat.zero_le _⟩ dX2_observe_106 (fun x27 M27 H locs g27 z27 hM hv hw => ?_)
    have hv := hv g27 z27
    refine r_if_eq (tgt := 127) hx hb dX2_observe_109 (by decide) g27  (fun b28 => ?_) (fun b28 => ?_)
    · have hv := hv.1 b28
      refine r_iconst hx hb dX2_observe_127 ?_
      exact J128 0 6 M27 _ _ _ hM hv hw (lv_sub hl [] rfl)
    · have hv := hv.2 b28
      refine lv_aload_n hx hb dX2_observe_112 rfl (lv_at hl 1 rfl) ?_
      refine lv_aload_n hx hb dX2_observe_113 rfl (lv_at hl 1 rfl) ?_
      refine gf_X2_74 hx hb hC hw k1 (gS_X hk1 τ ad M27) rfl dX2_observe_114 ?_
      refine lv_iload_n hx hb dX2_observe_117 rfl (lv_at hl 3 rfl) ?_
      refine k_cVi (wq_X τ ad) hx hb hml hC hLS hA hw hl.1 (mX6_bitsOf l D τ ad sA sV _ k1 (k1 + 5) p3 hk1 (isS_f4 hk1) hp3 M27 hM _ hv) kX6_bitsOf ml_X2_77 rfl (gS_X hk1 τ ad M27) rfl rfl (Nat.le_of_ble_eq_true rfl) (rm_ok (by decide) (by decide)) ⟨Nat.zero_le _, Nat.zero_le _⟩ dX2_observe_118 (fun x33 M33 H locs g33 hM hv hw => ?_)
      have hv := hv g33
      refine k_cSi (wq_X τ ad) hx hb hml hC hLS hA hw hl.1 (mJ6_bitCount_0f7a4X l D τ ad sA sV _ x33 g33 M33 hM _ hv) kJ6_bitCount_0f7a4 ml_X2_81 rfl rfl (Nat.le_of_ble_eq_true rfl) (rm_ok (by decide) (by decide)) ⟨Nat.zero_le _, Nat.zero_le _⟩ dX2_observe_121 (fun x34 M34 H locs g34 hM hv hw => ?_)
      have hv := hv g34
      refine lv_goto (tgt := 128) hx hb dX2_observe_124 (by decide) ?_
      exact J128 x34 6 M34 _ _ _ hM hv hw (lv_sub hl [] rfl)
  have J38 : ∀ (t0 : Int) (t1 : Int) (M : Mem) (H : Heap) (locs : List Loc) (ls : Array Slot), MR M → qX2_observe_J38 k0 k1 p3 Q t0 t1 M → wS D A s.heap (WX τ ad M) H locs → lv_has ls 4 [(0, .ref (ad k0)), (1, .ref (ad k1)), (2, .ref (ad 158)), (3, .int (iI p3))] → W p l e (rmk 2 0 0) s m args below meth c H locs 0 0 (MQ below (gQv D (EQv (WX τ ad) MR Q) A) args s 0 0 A) (F0 m 38 ls [.int (iI t0), .int (iI t1), .ref (ad (k0 + 4))]) := by
    intro t0 t1 M H locs ls hM hv hw hl
    unfold qX2_observe_J38 at hv
    obtain ⟨c7, hv⟩ := hv
    obtain ⟨c8, hv⟩ := hv
    obtain ⟨c9, hv⟩ := hv
    obtain ⟨M10, e10⟩ : ∃ M10 : Mem, M10 = up2 M (k0 + 4) t1 t0 := ⟨_, rfl⟩
    have hv := hv M10 e10
    refine r_iast (ws' := (WX τ ad M10)) hx hb hC hw (k0 + 4) (gI_X (isL_f3 hk0) τ ad M) c7 c8 (by decide) (by rw [e10]; exact sI_X (isL_f3 hk0) τ ad M _ _) dX2_observe_38 (fun H locs hw => ?_)
    have hM : MR M10 := by rw [e10]; exact hM.put (isL_f3 hk0).pos c9
    refine lv_aload_n hx hb dX2_observe_39 rfl (lv_at hl 0 rfl) ?_
    refine gf_X2_21 hx hb hC hw k0 (gL_X hk0 τ ad M10) rfl dX2_observe_40 ?_
    refine r_iconst hx hb dX2_observe_43 ?_
    refine lv_aload_n hx hb dX2_observe_44 rfl (lv_at hl 2 rfl) ?_
    refine lv_aload_n hx hb dX2_observe_45 rfl (lv_at hl 1 rfl) ?_
    refine gf_X2_51 hx hb hC hw k1 (gS_X hk1 τ ad M10) rfl dX2_observe_46 ?_
    refine lv_iload_n hx hb dX2_observe_49 rfl (lv_at hl 3 rfl) ?_
    obtain ⟨c11, hv⟩ := hv
    obtain ⟨c12, hv⟩ := hv
    refine r_iald hx hb hC hw (k1 + 1) (gI_X (isS_f0 hk1) τ ad M10) c11 c12 (by decide) dX2_observe_50 ?_
    refine r_top (fun x13 e13 => ?_)
    have g13 : iR x13 := by rw [e13]; exact hM.get (isS_f0 hk1).pos _
    have hv := hv x13 e13 g13
    refine k_cVz (wq_X τ ad) hx hb hml hC hLS hA hw hl.1 (mX8_isCorner l D τ ad sA sV _ x13 g13 M10 hM _ hv) kX8_isCorner ml_X2_64 rfl (gX_158 τ ad M10) rfl rfl (Nat.le_of_ble_eq_true rfl) (rm_ok (by decide) (by decide)) ⟨Nat.zero_le _, Nat.zero_le _⟩ dX2_observe_51 (fun x14 M14 H locs g14 z14 hM hv hw => ?_)
    have hv := hv g14 z14
    refine r_if_eq (tgt := 61) hx hb dX2_observe_54 (by decide) g14  (fun b15 => ?_) (fun b15 => ?_)
    · have hv := hv.1 b15
      refine r_iconst hx hb dX2_observe_61 ?_
      exact J62 0 2 M14 _ _ _ hM hv hw (lv_sub hl [0, 1, 2, 3] rfl)
    · have hv := hv.2 b15
      refine r_iconst hx hb dX2_observe_57 ?_
      refine lv_goto (tgt := 62) hx hb dX2_observe_58 (by decide) ?_
      exact J62 1 2 M14 _ _ _ hM hv hw (lv_sub hl [0, 1, 2, 3] rfl)
  refine lv_aload_n hx hb dX2_observe_0 rfl (lv_at hl 0 rfl) ?_
  refine gf_X2_21 hx hb hC hw k0 (gL_X hk0 τ ad M) rfl dX2_observe_1 ?_
  refine r_iconst hx hb dX2_observe_4 ?_
  refine lv_aload_n hx hb dX2_observe_5 rfl (lv_at hl 1 rfl) ?_
  refine gf_X2_51 hx hb hC hw k1 (gS_X hk1 τ ad M) rfl dX2_observe_6 ?_
  refine lv_iload_n hx hb dX2_observe_9 rfl (lv_at hl 3 rfl) ?_
  obtain ⟨c1, hv⟩ := hv
  obtain ⟨c2, hv⟩ := hv
  refine r_iald hx hb hC hw (k1 + 1) (gI_X (isS_f0 hk1) τ ad M) c1 c2 (by decide) dX2_observe_10 ?_
  refine r_top (fun x3 e3 => ?_)
  have g3 : iR x3 := by rw [e3]; exact hM.get (isS_f0 hk1).pos _
  have hv := hv x3 e3 g3
  obtain ⟨M4, e4⟩ : ∃ M4 : Mem, M4 = up2 M (k0 + 4) 0 x3 := ⟨_, rfl⟩
  have hv := hv M4 e4
  refine r_iast (ws' := (WX τ ad M4)) hx hb hC hw (k0 + 4) (gI_X (isL_f3 hk0) τ ad M) (by decide) (by decide) (by decide) (by rw [e4]; exact sI_X (isL_f3 hk0) τ ad M _ _) dX2_observe_11 (fun H locs hw => ?_)
  have hM : MR M4 := by rw [e4]; exact hM.put (isL_f3 hk0).pos g3
  refine lv_aload_n hx hb dX2_observe_12 rfl (lv_at hl 0 rfl) ?_
  refine gf_X2_21 hx hb hC hw k0 (gL_X hk0 τ ad M4) rfl dX2_observe_13 ?_
  refine r_iconst hx hb dX2_observe_16 ?_
  refine lv_aload_n hx hb dX2_observe_17 rfl (lv_at hl 0 rfl) ?_
  refine r_iconst hx hb dX2_observe_18 ?_
  refine k_cVz (wq_X τ ad) hx hb hml hC hLS hA hw hl.1 (mX2_uses l D τ ad sA sV _ k0 1 hk0 (by decide) M4 hM _ hv) kX2_uses ml_X2_42 rfl (gL_X hk0 τ ad M4) rfl rfl (Nat.le_of_ble_eq_true rfl) (rm_ok (by decide) (by decide)) ⟨Nat.zero_le _, Nat.zero_le _⟩ dX2_observe_19 (fun x5 M5 H locs g5 z5 hM hv hw => ?_)
  have hv := hv g5 z5
  refine r_if_eq (tgt := 37) hx hb dX2_observe_22 (by decide) g5  (fun b6 => ?_) (fun b6 => ?_)
  · have hv := hv.1 b6
    refine r_iconst hx hb dX2_observe_37 ?_
    exact J38 0 1 M5 _ _ _ hM hv hw (lv_sub hl [0, 1, 2, 3] rfl)
  · have hv := hv.2 b6
    refine lv_aload_n hx hb dX2_observe_25 rfl (lv_at hl 1 rfl) ?_
    refine lv_iload_n hx hb dX2_observe_26 rfl (lv_at hl 3 rfl) ?_
    refine lv_aload_n hx hb dX2_observe_27 rfl (lv_at hl 2 rfl) ?_
    refine k_cVi (wq_X τ ad) hx hb hml hC hLS hA hw hl.1 (mX8_gate l D τ ad sA sV _   M5 hM _ hv) kX8_gate ml_X2_56 rfl (gX_158 τ ad M5) rfl rfl (Nat.le_of_ble_eq_true rfl) (rm_ok (by decide) (by decide)) ⟨Nat.zero_le _, Nat.zero_le _⟩ dX2_observe_28 (fun x35 M35 H locs g35 hM hv hw => ?_)
    have hv := hv g35
    refine k_cVi (wq_X τ ad) hx hb hml hC hLS hA hw hl.1 (mX6_freeAhead l D τ ad sA sV _ k1 p3 x35 hk1 hp3 g35 M35 hM _ hv) kX6_freeAhead ml_X2_60 rfl (gS_X hk1 τ ad M35) rfl rfl (Nat.le_of_ble_eq_true rfl) (rm_ok (by decide) (by decide)) ⟨Nat.zero_le _, Nat.zero_le _⟩ dX2_observe_31 (fun x36 M36 H locs g36 hM hv hw => ?_)
    have hv := hv g36
    refine lv_goto (tgt := 38) hx hb dX2_observe_34 (by decide) ?_
    exact J38 x36 1 M36 _ _ _ hM hv hw (lv_sub hl [0, 1, 2, 3] rfl)
