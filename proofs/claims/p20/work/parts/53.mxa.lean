set_option maxHeartbeats 4000000 in
set_option maxRecDepth 100000 in
theorem mX2_add (l : Launch) (D : va_G) (τ : Nat → ClassId) (ad : Nat → Nat) (sA sV : Nat → Nat) (sz : Nat) (k0 : Nat) (p1 : Int) (p2 : Int) (hk0 : isL k0) (hp1 : iR p1) (hp2 : iR p2) (M : Mem) (hM : MR M) (Q : Mem → Prop) (hv : qX2_add k0 p1 p2 M Q) : Met l yX2_add (lw_w yX2_add cX2_add 3 none) (rmk 1 0 0) (kPc D τ sA sV (WX τ ad M) sz [.ref (ad k0), .int (iI p1), .int (iI p2)]) (gQv D (EQv (WX τ ad) MR Q) (va_A (WX τ ad M) sz)) 0 0 (va_A (WX τ ad M) sz) := by
  refine k_met (ret := none) (Qc := gQv D (EQv (WX τ ad) MR Q)) (by decide +kernel) (Nat.le_of_ble_eq_true rfl) ?_
  intro p e s m args below meth c A ls hx hb hml hr hlk hnm hC hLS hA hw hl
  have hC : cx D τ s m args RX2 := hC
  have hl : lv_has ls 3 [(0, .ref (ad k0)), (1, .int (iI p1)), (2, .int (iI p2))] := hl
  unfold qX2_add at hv
  refine lv_aload_n hx hb dX2_add_0 rfl (lv_at hl 0 rfl) ?_
  refine gf_X2_24 hx hb hC hw k0 (gL_X hk0 τ ad M) rfl dX2_add_1 ?_
  refine r_top (fun x1 e1 => ?_)
  have g1 : iR x1 := by rw [e1]; exact hM.get hk0.pos _
  have hv := hv x1 e1 g1
  refine r_bipush hx hb dX2_add_4 (by decide +kernel) ?_
  refine r_icmp_ge (tgt := 39) hx hb dX2_add_6 (by decide) g1 (by decide) (fun b2 => ?_) (fun b2 => ?_)
  · have hv := hv.1 b2
    exact k_vret (wq_X τ ad) hx hb hr hlk hw hM hv dX2_add_39
  · have hv := hv.2 b2
    refine lv_aload_n hx hb dX2_add_9 rfl (lv_at hl 0 rfl) ?_
    refine gf_X2_9 hx hb hC hw k0 (gL_X hk0 τ ad M) rfl dX2_add_10 ?_
    refine lv_aload_n hx hb dX2_add_13 rfl (lv_at hl 0 rfl) ?_
    refine gf_X2_24 hx hb hC hw k0 (gL_X hk0 τ ad M) rfl dX2_add_14 ?_
    refine r_top (fun x3 e3 => ?_)
    have g3 : iR x3 := by rw [e3]; exact hM.get hk0.pos _
    have hv := hv x3 e3 g3
    refine lv_iload_n hx hb dX2_add_17 rfl (lv_at hl 1 rfl) ?_
    obtain ⟨c4, hv⟩ := hv
    obtain ⟨c5, hv⟩ := hv
    obtain ⟨M6, e6⟩ : ∃ M6 : Mem, M6 = up2 M (k0 + 1) x3 p1 := ⟨_, rfl⟩
    have hv := hv M6 e6
    refine r_iast (ws' := (WX τ ad M6)) hx hb hC hw (k0 + 1) (gI_X (isL_f0 hk0) τ ad M) c4 c5 (by decide) (by rw [e6]; exact sI_X (isL_f0 hk0) τ ad M _ _) dX2_add_18 (fun H locs hw => ?_)
    have hM : MR M6 := by rw [e6]; exact hM.put (isL_f0 hk0).pos hp1
    refine lv_aload_n hx hb dX2_add_19 rfl (lv_at hl 0 rfl) ?_
    refine gf_X2_15 hx hb hC hw k0 (gL_X hk0 τ ad M6) rfl dX2_add_20 ?_
    refine lv_aload_n hx hb dX2_add_23 rfl (lv_at hl 0 rfl) ?_
    refine gf_X2_24 hx hb hC hw k0 (gL_X hk0 τ ad M6) rfl dX2_add_24 ?_
    refine r_top (fun x7 e7 => ?_)
    have g7 : iR x7 := by rw [e7]; exact hM.get hk0.pos _
    have hv := hv x7 e7 g7
    refine lv_iload_n hx hb dX2_add_27 rfl (lv_at hl 2 rfl) ?_
    obtain ⟨c8, hv⟩ := hv
    obtain ⟨c9, hv⟩ := hv
    obtain ⟨M10, e10⟩ : ∃ M10 : Mem, M10 = up2 M6 (k0 + 2) x7 p2 := ⟨_, rfl⟩
    have hv := hv M10 e10
    refine r_iast (ws' := (WX τ ad M10)) hx hb hC hw (k0 + 2) (gI_X (isL_f1 hk0) τ ad M6) c8 c9 (by decide) (by rw [e10]; exact sI_X (isL_f1 hk0) τ ad M6 _ _) dX2_add_28 (fun H locs hw => ?_)
    have hM : MR M10 := by rw [e10]; exact hM.put (isL_f1 hk0).pos hp2
    refine lv_aload_n hx hb dX2_add_29 rfl (lv_at hl 0 rfl) ?_
    refine lv_dup hx hb dX2_add_30 rfl ?_
    refine gf_X2_24 hx hb hC hw k0 (gL_X hk0 τ ad M10) rfl dX2_add_31 ?_
    refine r_top (fun x11 e11 => ?_)
    have g11 : iR x11 := by rw [e11]; exact hM.get hk0.pos _
    have hv := hv x11 e11 g11
    refine r_iconst hx hb dX2_add_34 ?_
    refine r_iadd (z := (x11 + 1)) hx hb dX2_add_35 rfl ?_
    obtain ⟨c12, hv⟩ := hv
    obtain ⟨M13, e13⟩ : ∃ M13 : Mem, M13 = up2 M10 k0 4 (x11 + 1) := ⟨_, rfl⟩
    have hv := hv M13 e13
    refine pf_X2_24 (ws' := (WX τ ad M13)) hx hb hC hw k0 (gL_X hk0 τ ad M10) (Nat.le_of_ble_eq_true rfl) (by rw [e13]; exact sL_4 hk0 τ ad M10 _) dX2_add_36 (fun H locs hw => ?_)
    have hM : MR M13 := by rw [e13]; exact hM.put hk0.pos c12
    exact k_vret (wq_X τ ad) hx hb hr hlk hw hM hv dX2_add_39
set_option maxHeartbeats 4000000 in
set_option maxRecDepth 100000 in
theorem mX2_addLetter (l : Launch) (D : va_G) (τ : Nat → ClassId) (ad : Nat → Nat) (sA sV : Nat → Nat) (sz : Nat) (k0 : Nat) (p1 : Int) (hk0 : isL k0) (hp1 : iR p1) (M : Mem) (hM : MR M) (Q : Mem → Prop) (hv : qX2_addLetter k0 p1 M Q) : Met l yX2_addLetter (lw_w yX2_addLetter cX2_addLetter 2 none) (rmk 2 0 0) (kPc D τ sA sV (WX τ ad M) sz [.ref (ad k0), .int (iI p1)]) (gQv D (EQv (WX τ ad) MR Q) (va_A (WX τ ad M) sz)) 0 0 (va_A (WX τ ad M) sz) := by
  refine k_met (ret := none) (Qc := gQv D (EQv (WX τ ad) MR Q)) (by decide +kernel) (Nat.le_of_ble_eq_true rfl) ?_
  intro p e s m args below meth c A ls hx hb hml hr hlk hnm hC hLS hA hw hl
  have hC : cx D τ s m args RX2 := hC
  have hl : lv_has ls 2 [(0, .ref (ad k0)), (1, .int (iI p1))] := hl
  unfold qX2_addLetter at hv
  refine lv_aload_n hx hb dX2_addLetter_0 rfl (lv_at hl 0 rfl) ?_
  refine r_sipush hx hb dX2_addLetter_1 (by decide +kernel) ?_
  refine lv_iload_n hx hb dX2_addLetter_4 rfl (lv_at hl 1 rfl) ?_
  refine k_cVv (wq_X τ ad) hx hb hml hC hLS hA hw hl.1 (mX2_add l D τ ad sA sV _ k0 301 p1 hk0 (by decide) hp1 M hM _ hv) kX2_add ml_X2_34 rfl (gL_X hk0 τ ad M) rfl rfl (Nat.le_of_ble_eq_true rfl) (rm_ok (by decide) (by decide)) ⟨Nat.zero_le _, Nat.zero_le _⟩ dX2_addLetter_5 (fun M1 H locs hM hv hw => ?_)
  refine lv_aload_n hx hb dX2_addLetter_8 rfl (lv_at hl 0 rfl) ?_
  refine lv_dup hx hb dX2_addLetter_9 rfl ?_
  refine gf_X2_28 hx hb hC hw k0 (gL_X hk0 τ ad M1) rfl dX2_addLetter_10 ?_
  refine r_top (fun x2 e2 => ?_)
  have g2 : iR x2 := by rw [e2]; exact hM.get hk0.pos _
  have hv := hv x2 e2 g2
  refine r_iconst hx hb dX2_addLetter_13 ?_
  refine lv_iload_n hx hb dX2_addLetter_14 rfl (lv_at hl 1 rfl) ?_
  refine r_ishlF hx hb dX2_addLetter_15 (fun x3 e3 g3 => ?_)
  have hv := hv x3 e3 g3
  refine r_iorF hx hb dX2_addLetter_16 (fun x4 e4 g4 => ?_)
  have hv := hv x4 e4 g4
  obtain ⟨M5, e5⟩ : ∃ M5 : Mem, M5 = up2 M1 k0 5 x4 := ⟨_, rfl⟩
  have hv := hv M5 e5
  refine pf_X2_28 (ws' := (WX τ ad M5)) hx hb hC hw k0 (gL_X hk0 τ ad M1) (Nat.le_of_ble_eq_true rfl) (by rw [e5]; exact sL_5 hk0 τ ad M1 _) dX2_addLetter_17 (fun H locs hw => ?_)
  have hM : MR M5 := by rw [e5]; exact hM.put hk0.pos g4
  exact k_vret (wq_X τ ad) hx hb hr hlk hw hM hv dX2_addLetter_20
set_option maxHeartbeats 4000000 in
set_option maxRecDepth 100000 in
theorem mX2_clear (l : Launch) (D : va_G) (τ : Nat → ClassId) (ad : Nat → Nat) (sA sV : Nat → Nat) (sz : Nat) (k0 : Nat) (hk0 : isL k0) (M : Mem) (hM : MR M) (Q : Mem → Prop) (hv : qX2_clear k0 M Q) : Met l yX2_clear (lw_w yX2_clear cX2_clear 1 none) (rmk 1 0 0) (kPc D τ sA sV (WX τ ad M) sz [.ref (ad k0)]) (gQv D (EQv (WX τ ad) MR Q) (va_A (WX τ ad M) sz)) 0 0 (va_A (WX τ ad M) sz) := by
  refine k_met (ret := none) (Qc := gQv D (EQv (WX τ ad) MR Q)) (by decide +kernel) (Nat.le_of_ble_eq_true rfl) ?_
  intro p e s m args below meth c A ls hx hb hml hr hlk hnm hC hLS hA hw hl
  have hC : cx D τ s m args RX2 := hC
  have hl : lv_has ls 1 [(0, .ref (ad k0))] := hl
  unfold qX2_clear at hv
  refine lv_aload_n hx hb dX2_clear_0 rfl (lv_at hl 0 rfl) ?_
  refine r_iconst hx hb dX2_clear_1 ?_
  obtain ⟨M1, e1⟩ : ∃ M1 : Mem, M1 = up2 M k0 4 0 := ⟨_, rfl⟩
  have hv := hv M1 e1
  refine pf_X2_24 (ws' := (WX τ ad M1)) hx hb hC hw k0 (gL_X hk0 τ ad M) (Nat.le_of_ble_eq_true rfl) (by rw [e1]; exact sL_4 hk0 τ ad M _) dX2_clear_2 (fun H locs hw => ?_)
  have hM : MR M1 := by rw [e1]; exact hM.put hk0.pos (by decide)
  refine lv_aload_n hx hb dX2_clear_5 rfl (lv_at hl 0 rfl) ?_
  refine r_iconst hx hb dX2_clear_6 ?_
  obtain ⟨M2, e2⟩ : ∃ M2 : Mem, M2 = up2 M1 k0 5 0 := ⟨_, rfl⟩
  have hv := hv M2 e2
  refine pf_X2_28 (ws' := (WX τ ad M2)) hx hb hC hw k0 (gL_X hk0 τ ad M1) (Nat.le_of_ble_eq_true rfl) (by rw [e2]; exact sL_5 hk0 τ ad M1 _) dX2_clear_7 (fun H locs hw => ?_)
  have hM : MR M2 := by rw [e2]; exact hM.put hk0.pos (by decide)
  exact k_vret (wq_X τ ad) hx hb hr hlk hw hM hv dX2_clear_10
set_option maxHeartbeats 4000000 in
set_option maxRecDepth 100000 in
theorem mX2_becomePlain (l : Launch) (D : va_G) (τ : Nat → ClassId) (ad : Nat → Nat) (sA sV : Nat → Nat) (sz : Nat) (k0 : Nat) (hk0 : isL k0) (M : Mem) (hM : MR M) (Q : Mem → Prop) (hv : qX2_becomePlain k0 M Q) : Met l yX2_becomePlain (lw_w yX2_becomePlain cX2_becomePlain 1 none) (rmk 3 0 0) (kPc D τ sA sV (WX τ ad M) sz [.ref (ad k0)]) (gQv D (EQv (WX τ ad) MR Q) (va_A (WX τ ad M) sz)) 0 0 (va_A (WX τ ad M) sz) := by
  refine k_met (ret := none) (Qc := gQv D (EQv (WX τ ad) MR Q)) (by decide +kernel) (Nat.le_of_ble_eq_true rfl) ?_
  intro p e s m args below meth c A ls hx hb hml hr hlk hnm hC hLS hA hw hl
  have hC : cx D τ s m args RX2 := hC
  have hl : lv_has ls 1 [(0, .ref (ad k0))] := hl
  unfold qX2_becomePlain at hv
  refine lv_aload_n hx hb dX2_becomePlain_0 rfl (lv_at hl 0 rfl) ?_
  refine k_cVv (wq_X τ ad) hx hb hml hC hLS hA hw hl.1 (mX2_clear l D τ ad sA sV _ k0 hk0 M hM _ hv) kX2_clear ml_X2_31 rfl (gL_X hk0 τ ad M) rfl rfl (Nat.le_of_ble_eq_true rfl) (rm_ok (by decide) (by decide)) ⟨Nat.zero_le _, Nat.zero_le _⟩ dX2_becomePlain_1 (fun M1 H locs hM hv hw => ?_)
  refine lv_aload_n hx hb dX2_becomePlain_4 rfl (lv_at hl 0 rfl) ?_
  refine r_sipush hx hb dX2_becomePlain_5 (by decide +kernel) ?_
  refine r_iconst hx hb dX2_becomePlain_8 ?_
  refine k_cVv (wq_X τ ad) hx hb hml hC hLS hA hw hl.1 (mX2_add l D τ ad sA sV _ k0 300 1 hk0 (by decide) (by decide) M1 hM _ hv) kX2_add ml_X2_34 rfl (gL_X hk0 τ ad M1) rfl rfl (Nat.le_of_ble_eq_true rfl) (rm_ok (by decide) (by decide)) ⟨Nat.zero_le _, Nat.zero_le _⟩ dX2_becomePlain_9 (fun M2 H locs hM hv hw => ?_)
  refine lv_aload_n hx hb dX2_becomePlain_12 rfl (lv_at hl 0 rfl) ?_
  refine r_iconst hx hb dX2_becomePlain_13 ?_
  refine k_cVv (wq_X τ ad) hx hb hml hC hLS hA hw hl.1 (mX2_addLetter l D τ ad sA sV _ k0 1 hk0 (by decide) M2 hM _ hv) kX2_addLetter ml_X2_38 rfl (gL_X hk0 τ ad M2) rfl rfl (Nat.le_of_ble_eq_true rfl) (rm_ok (by decide) (by decide)) ⟨Nat.zero_le _, Nat.zero_le _⟩ dX2_becomePlain_14 (fun M3 H locs hM hv hw => ?_)
  refine lv_aload_n hx hb dX2_becomePlain_17 rfl (lv_at hl 0 rfl) ?_
  refine r_sipush hx hb dX2_becomePlain_18 (by decide +kernel) ?_
  refine r_iconst hx hb dX2_becomePlain_21 ?_
  refine k_cVv (wq_X τ ad) hx hb hml hC hLS hA hw hl.1 (mX2_add l D τ ad sA sV _ k0 300 2 hk0 (by decide) (by decide) M3 hM _ hv) kX2_add ml_X2_34 rfl (gL_X hk0 τ ad M3) rfl rfl (Nat.le_of_ble_eq_true rfl) (rm_ok (by decide) (by decide)) ⟨Nat.zero_le _, Nat.zero_le _⟩ dX2_becomePlain_22 (fun M4 H locs hM hv hw => ?_)
  refine lv_aload_n hx hb dX2_becomePlain_25 rfl (lv_at hl 0 rfl) ?_
  refine r_bipush hx hb dX2_becomePlain_26 (by decide +kernel) ?_
  refine r_iconst hx hb dX2_becomePlain_28 ?_
  refine k_cVv (wq_X τ ad) hx hb hml hC hLS hA hw hl.1 (mX2_add l D τ ad sA sV _ k0 62 0 hk0 (by decide) (by decide) M4 hM _ hv) kX2_add ml_X2_34 rfl (gL_X hk0 τ ad M4) rfl rfl (Nat.le_of_ble_eq_true rfl) (rm_ok (by decide) (by decide)) ⟨Nat.zero_le _, Nat.zero_le _⟩ dX2_becomePlain_29 (fun M5 H locs hM hv hw => ?_)
  refine lv_aload_n hx hb dX2_becomePlain_32 rfl (lv_at hl 0 rfl) ?_
  refine r_bipush hx hb dX2_becomePlain_33 (by decide +kernel) ?_
  refine r_iconst hx hb dX2_becomePlain_35 ?_
  refine k_cVv (wq_X τ ad) hx hb hml hC hLS hA hw hl.1 (mX2_add l D τ ad sA sV _ k0 43 0 hk0 (by decide) (by decide) M5 hM _ hv) kX2_add ml_X2_34 rfl (gL_X hk0 τ ad M5) rfl rfl (Nat.le_of_ble_eq_true rfl) (rm_ok (by decide) (by decide)) ⟨Nat.zero_le _, Nat.zero_le _⟩ dX2_becomePlain_36 (fun M6 H locs hM hv hw => ?_)
  exact k_vret (wq_X τ ad) hx hb hr hlk hw hM hv dX2_becomePlain_39
set_option maxHeartbeats 4000000 in
set_option maxRecDepth 100000 in
theorem mX9_addFour (l : Launch) (D : va_G) (τ : Nat → ClassId) (ad : Nat → Nat) (sA sV : Nat → Nat) (sz : Nat) (p1 : Int) (hp1 : iR p1) (M : Mem) (hM : MR M) (Q : Int → Mem → Prop) (hv : qX9_addFour p1 M Q) : Met l yX9_addFour (lw_w yX9_addFour cX9_addFour 3 (some .boolean)) (rmk 1 0 0) (kPc D τ sA sV (WX τ ad M) sz [.ref (ad 156), .int (iI p1)]) (gQi D (EQz (WX τ ad) MR Q) (va_A (WX τ ad M) sz)) 0 0 (va_A (WX τ ad M) sz) := by
  refine k_met (ret := (some .boolean)) (Qc := gQi D (EQz (WX τ ad) MR Q)) (by decide +kernel) (Nat.le_of_ble_eq_true rfl) ?_
  intro p e s m args below meth c A ls hx hb hml hr hlk hnm hC hLS hA hw hl
  have hC : cx D τ s m args RX9 := hC
  have hl : lv_has ls 3 [(0, .ref (ad 156)), (1, .int (iI p1))] := hl
  unfold qX9_addFour at hv
  have L16 : ∀ (n : Nat) (v2 : Int) (M : Mem) (H : Heap) (locs : List Loc) (ls : Array Slot), MR M → qX9_addFour_L16 p1  Q n v2 M → wS D A s.heap (WX τ ad M) H locs → lv_has ls 3 [(0, .ref (ad 156)), (1, .int (iI p1)), (2, .int (iI v2))] → W p l e (rmk 1 0 0) s m args below meth c H locs 0 0 (MQ below (gQi D (EQz (WX τ ad) MR Q) A) args s 0 0 A) (F0 m 16 ls []) := by
    intro n
    induction n with
    | zero => intro v2 M H locs ls hM hv; rw [qX9_addFour_L16] at hv; exact hv.elim
    | succ n ih =>
      intro v2 M H locs ls hM hv hw hl
      rw [qX9_addFour_L16] at hv
      refine lv_iload_n hx hb dX9_addFour_16 rfl (lv_at hl 2 rfl) ?_
      obtain ⟨c4, hv⟩ := hv
      refine r_if_lt (tgt := 52) hx hb dX9_addFour_17 (by decide) c4  (fun b5 => ?_) (fun b5 => ?_)
      · have hv := hv.1 b5
        refine r_iconst hx hb dX9_addFour_52 ?_
        exact k_zret (wq_X τ ad) hx hb hr hlk hw hM (by decide) (by decide) hv dX9_addFour_53
      · have hv := hv.2 b5
        refine lv_aload_n hx hb dX9_addFour_20 rfl (lv_at hl 0 rfl) ?_
        refine gf_X9_9 hx hb hC hw 156 (gX_156 τ ad M) rfl dX9_addFour_21 ?_
        refine lv_aload_n hx hb dX9_addFour_24 rfl (lv_at hl 0 rfl) ?_
        refine gf_X9_15 hx hb hC hw 156 (gX_156 τ ad M) rfl dX9_addFour_25 ?_
        refine r_top (fun x6 e6 => ?_)
        have g6 : iR x6 := by rw [e6]; exact hM.get (by decide) _
        have hv := hv x6 e6 g6
        refine lv_iload_n hx hb dX9_addFour_28 rfl (lv_at hl 1 rfl) ?_
        refine lv_iload_n hx hb dX9_addFour_29 rfl (lv_at hl 2 rfl) ?_
        refine r_iushrF hx hb dX9_addFour_30 (fun x7 e7 g7 => ?_)
        have hv := hv x7 e7 g7
        refine r_sipush hx hb dX9_addFour_31 (by decide +kernel) ?_
        refine r_iandF hx hb dX9_addFour_34 (fun x8 e8 g8 => ?_)
        have hv := hv x8 e8 g8
        obtain ⟨c9, hv⟩ := hv
        obtain ⟨c10, hv⟩ := hv
        obtain ⟨M11, e11⟩ : ∃ M11 : Mem, M11 = up2 M 157 x6 x8 := ⟨_, rfl⟩
        have hv := hv M11 e11
        refine r_iast (ws' := (WX τ ad M11)) hx hb hC hw 157 (gI_X aX_157 τ ad M) c9 c10 (by decide) (by rw [e11]; exact sI_X aX_157 τ ad M _ _) dX9_addFour_35 (fun H locs hw => ?_)
        have hM : MR M11 := by rw [e11]; exact hM.put aX_157.pos g8
        refine lv_aload_n hx hb dX9_addFour_36 rfl (lv_at hl 0 rfl) ?_
        refine lv_dup hx hb dX9_addFour_37 rfl ?_
        refine gf_X9_15 hx hb hC hw 156 (gX_156 τ ad M11) rfl dX9_addFour_38 ?_
        refine r_top (fun x12 e12 => ?_)
        have g12 : iR x12 := by rw [e12]; exact hM.get (by decide) _
        have hv := hv x12 e12 g12
        refine r_iconst hx hb dX9_addFour_41 ?_
        refine r_iadd (z := (x12 + 1)) hx hb dX9_addFour_42 rfl ?_
        obtain ⟨c13, hv⟩ := hv
        obtain ⟨M14, e14⟩ : ∃ M14 : Mem, M14 = up2 M11 156 1 (x12 + 1) := ⟨_, rfl⟩
        have hv := hv M14 e14
        refine pf_X9_15 (ws' := (WX τ ad M14)) hx hb hC hw 156 (gX_156 τ ad M11) (Nat.le_of_ble_eq_true rfl) (by rw [e14]; exact sX_156_1 τ ad M11 _) dX9_addFour_43 (fun H locs hw => ?_)
        have hM : MR M14 := by rw [e14]; exact hM.put (by decide) c13
        refine r_iinc (v := (v2 + (-8))) (lv' := [(2, .int (iI (v2 + (-8)))), (0, .ref (ad 156)), (1, .int (iI p1))]) hx hb dX9_addFour_46 hl (k := 2) rfl rfl (by decide) rfl (fun ls hl => ?_)
        refine lv_goto (tgt := 16) hx hb dX9_addFour_49 (by decide) ?_
        exact ih (v2 + (-8)) M14 _ _ _ hM hv hw (lv_sub hl [1, 2, 0] rfl)
  refine lv_aload_n hx hb dX9_addFour_0 rfl (lv_at hl 0 rfl) ?_
  refine gf_X9_15 hx hb hC hw 156 (gX_156 τ ad M) rfl dX9_addFour_1 ?_
  refine r_top (fun x1 e1 => ?_)
  have g1 : iR x1 := by rw [e1]; exact hM.get (by decide) _
  have hv := hv x1 e1 g1
  refine r_iconst hx hb dX9_addFour_4 ?_
  refine r_iadd (z := (x1 + 4)) hx hb dX9_addFour_5 rfl ?_
  refine r_bipush hx hb dX9_addFour_6 (by decide +kernel) ?_
  obtain ⟨c2, hv⟩ := hv
  refine r_icmp_le (tgt := 13) hx hb dX9_addFour_8 (by decide) c2 (by decide) (fun b3 => ?_) (fun b3 => ?_)
  · have hv := hv.1 b3
    refine r_bipush hx hb dX9_addFour_13 (by decide +kernel) ?_
    refine lv_istore_n (lv' := [(2, .int (iI 24)), (0, .ref (ad 156)), (1, .int (iI p1))]) hx hb dX9_addFour_15 rfl hl (by decide) rfl (fun ls hl => ?_)
    obtain ⟨n15, hv⟩ := hv
    refine L16  n15 24 M _ _ _ hM hv hw (lv_sub hl [1, 2, 0] rfl)
  · have hv := hv.2 b3
    refine r_iconst hx hb dX9_addFour_11 ?_
    exact k_zret (wq_X τ ad) hx hb hr hlk hw hM (by decide) (by decide) hv dX9_addFour_12
set_option maxHeartbeats 4000000 in
set_option maxRecDepth 100000 in
theorem mX11_sign (l : Launch) (D : va_G) (τ : Nat → ClassId) (ad : Nat → Nat) (sA sV : Nat → Nat) (sz : Nat) (p1 : Int) (hp1 : iR p1) (M : Mem) (hM : MR M) (Q : Int → Mem → Prop) (hv : qX11_sign p1 M Q) : Met l yX11_sign (lw_w yX11_sign cX11_sign 2 (some .int)) (rmk 2 0 0) (kPc D τ sA sV (WX τ ad M) sz [.ref (ad 155), .int (iI p1)]) (gQi D (EQi (WX τ ad) MR Q) (va_A (WX τ ad M) sz)) 0 0 (va_A (WX τ ad M) sz) := by
  refine k_met (ret := (some .int)) (Qc := gQi D (EQi (WX τ ad) MR Q)) (by decide +kernel) (Nat.le_of_ble_eq_true rfl) ?_
  intro p e s m args below meth c A ls hx hb hml hr hlk hnm hC hLS hA hw hl
  have hC : cx D τ s m args RX11 := hC
  have hl : lv_has ls 2 [(0, .ref (ad 155)), (1, .int (iI p1))] := hl
  unfold qX11_sign at hv
  refine lv_aload_n hx hb dX11_sign_0 rfl (lv_at hl 0 rfl) ?_
  refine gf_X11_10 hx hb hC hw 155 (gX_155 τ ad M) rfl dX11_sign_1 ?_
  refine lv_iload_n hx hb dX11_sign_4 rfl (lv_at hl 1 rfl) ?_
  refine k_cVz (wq_X τ ad) hx hb hml hC hLS hA hw hl.1 (mX9_addFour l D τ ad sA sV _ p1 hp1 M hM _ hv) kX9_addFour ml_X11_115 rfl (gX_156 τ ad M) rfl rfl (Nat.le_of_ble_eq_true rfl) (rm_ok (by decide) (by decide)) ⟨Nat.zero_le _, Nat.zero_le _⟩ dX11_sign_5 (fun x1 M1 H locs g1 z1 hM hv hw => ?_)
  have hv := hv g1 z1
  refine r_if_eq (tgt := 21) hx hb dX11_sign_8 (by decide) g1  (fun b2 => ?_) (fun b2 => ?_)
  · have hv := hv.1 b2
    refine r_iconst hx hb dX11_sign_21 ?_
    exact k_iret (wq_X τ ad) hx hb hr hlk hw hM (by decide) hv dX11_sign_22
  · have hv := hv.2 b2
    refine lv_aload_n hx hb dX11_sign_11 rfl (lv_at hl 0 rfl) ?_
    refine gf_X11_10 hx hb hC hw 155 (gX_155 τ ad M1) rfl dX11_sign_12 ?_
    refine gf_X11_119 hx hb hC hw 156 (gX_156 τ ad M1) rfl dX11_sign_15 ?_
    refine r_top (fun x3 e3 => ?_)
    have g3 : iR x3 := by rw [e3]; exact hM.get (by decide) _
    have hv := hv x3 e3 g3
    refine lv_goto (tgt := 22) hx hb dX11_sign_18 (by decide) ?_
    exact k_iret (wq_X τ ad) hx hb hr hlk hw hM g3 hv dX11_sign_22
set_option maxHeartbeats 4000000 in
set_option maxRecDepth 100000 in
theorem mX9_cutTo (l : Launch) (D : va_G) (τ : Nat → ClassId) (ad : Nat → Nat) (sA sV : Nat → Nat) (sz : Nat) (p1 : Int) (hp1 : iR p1) (M : Mem) (hM : MR M) (Q : Int → Mem → Prop) (hv : qX9_cutTo p1 M Q) : Met l yX9_cutTo (lw_w yX9_cutTo cX9_cutTo 2 (some .boolean)) (rmk 1 0 0) (kPc D τ sA sV (WX τ ad M) sz [.ref (ad 156), .int (iI p1)]) (gQi D (EQz (WX τ ad) MR Q) (va_A (WX τ ad M) sz)) 0 0 (va_A (WX τ ad M) sz) := by
  refine k_met (ret := (some .boolean)) (Qc := gQi D (EQz (WX τ ad) MR Q)) (by decide +kernel) (Nat.le_of_ble_eq_true rfl) ?_
  intro p e s m args below meth c A ls hx hb hml hr hlk hnm hC hLS hA hw hl
  have hC : cx D τ s m args RX9 := hC
  have hl : lv_has ls 2 [(0, .ref (ad 156)), (1, .int (iI p1))] := hl
  unfold qX9_cutTo at hv
  refine lv_iload_n hx hb dX9_cutTo_0 rfl (lv_at hl 1 rfl) ?_
  refine r_if_lt (tgt := 12) hx hb dX9_cutTo_1 (by decide) hp1  (fun b1 => ?_) (fun b1 => ?_)
  · have hv := hv.1 b1
    refine r_iconst hx hb dX9_cutTo_12 ?_
    exact k_zret (wq_X τ ad) hx hb hr hlk hw hM (by decide) (by decide) hv dX9_cutTo_13
  · have hv := hv.2 b1
    refine lv_iload_n hx hb dX9_cutTo_4 rfl (lv_at hl 1 rfl) ?_
    refine lv_aload_n hx hb dX9_cutTo_5 rfl (lv_at hl 0 rfl) ?_
    refine gf_X9_15 hx hb hC hw 156 (gX_156 τ ad M) rfl dX9_cutTo_6 ?_
    refine r_top (fun x2 e2 => ?_)
    have g2 : iR x2 := by rw [e2]; exact hM.get (by decide) _
    have hv := hv x2 e2 g2
    refine r_icmp_le (tgt := 14) hx hb dX9_cutTo_9 (by decide) hp1 g2 (fun b3 => ?_) (fun b3 => ?_)
    · have hv := hv.1 b3
      refine lv_aload_n hx hb dX9_cutTo_14 rfl (lv_at hl 0 rfl) ?_
      refine lv_iload_n hx hb dX9_cutTo_15 rfl (lv_at hl 1 rfl) ?_
      obtain ⟨M4, e4⟩ : ∃ M4 : Mem, M4 = up2 M 156 1 p1 := ⟨_, rfl⟩
      have hv := hv M4 e4
      refine pf_X9_15 (ws' := (WX τ ad M4)) hx hb hC hw 156 (gX_156 τ ad M) (Nat.le_of_ble_eq_true rfl) (by rw [e4]; exact sX_156_1 τ ad M _) dX9_cutTo_16 (fun H locs hw => ?_)
      have hM : MR M4 := by rw [e4]; exact hM.put (by decide) hp1
      refine r_iconst hx hb dX9_cutTo_19 ?_
      exact k_zret (wq_X τ ad) hx hb hr hlk hw hM (by decide) (by decide) hv dX9_cutTo_20
    · have hv := hv.2 b3
      refine r_iconst hx hb dX9_cutTo_12 ?_
      exact k_zret (wq_X τ ad) hx hb hr hlk hw hM (by decide) (by decide) hv dX9_cutTo_13
set_option maxHeartbeats 4000000 in
set_option maxRecDepth 100000 in
theorem mX11_end (l : Launch) (D : va_G) (τ : Nat → ClassId) (ad : Nat → Nat) (sA sV : Nat → Nat) (sz : Nat) (p1 : Int) (hp1 : iR p1) (M : Mem) (hM : MR M) (Q : Int → Mem → Prop) (hv : qX11_end p1 M Q) : Met l yX11_end (lw_w yX11_end cX11_end 2 (some .boolean)) (rmk 2 0 0) (kPc D τ sA sV (WX τ ad M) sz [.ref (ad 155), .int (iI p1)]) (gQi D (EQz (WX τ ad) MR Q) (va_A (WX τ ad M) sz)) 0 0 (va_A (WX τ ad M) sz) := by
  refine k_met (ret := (some .boolean)) (Qc := gQi D (EQz (WX τ ad) MR Q)) (by decide +kernel) (Nat.le_of_ble_eq_true rfl) ?_
  intro p e s m args below meth c A ls hx hb hml hr hlk hnm hC hLS hA hw hl
  have hC : cx D τ s m args RX11 := hC
  have hl : lv_has ls 2 [(0, .ref (ad 155)), (1, .int (iI p1))] := hl
  unfold qX11_end at hv
  refine lv_aload_n hx hb dX11_end_0 rfl (lv_at hl 0 rfl) ?_
  refine gf_X11_10 hx hb hC hw 155 (gX_155 τ ad M) rfl dX11_end_1 ?_
  refine lv_iload_n hx hb dX11_end_4 rfl (lv_at hl 1 rfl) ?_
  refine k_cVz (wq_X τ ad) hx hb hml hC hLS hA hw hl.1 (mX9_cutTo l D τ ad sA sV _ p1 hp1 M hM _ hv) kX9_cutTo ml_X11_122 rfl (gX_156 τ ad M) rfl rfl (Nat.le_of_ble_eq_true rfl) (rm_ok (by decide) (by decide)) ⟨Nat.zero_le _, Nat.zero_le _⟩ dX11_end_5 (fun x1 M1 H locs g1 z1 hM hv hw => ?_)
  have hv := hv g1 z1
  obtain ⟨c2, hv⟩ := hv
  exact k_zret (wq_X τ ad) hx hb hr hlk hw hM g1 c2 hv dX11_end_8
set_option maxHeartbeats 4000000 in
set_option maxRecDepth 100000 in
theorem mX9_signAt (l : Launch) (D : va_G) (τ : Nat → ClassId) (ad : Nat → Nat) (sA sV : Nat → Nat) (sz : Nat) (p1 : Int) (hp1 : iR p1) (M : Mem) (hM : MR M) (Q : Int → Mem → Prop) (hv : qX9_signAt p1 M Q) : Met l yX9_signAt (lw_w yX9_signAt cX9_signAt 2 (some .int)) (rmk 1 0 0) (kPc D τ sA sV (WX τ ad M) sz [.ref (ad 156), .int (iI p1)]) (gQi D (EQi (WX τ ad) MR Q) (va_A (WX τ ad M) sz)) 0 0 (va_A (WX τ ad M) sz) := by
  refine k_met (ret := (some .int)) (Qc := gQi D (EQi (WX τ ad) MR Q)) (by decide +kernel) (Nat.le_of_ble_eq_true rfl) ?_
  intro p e s m args below meth c A ls hx hb hml hr hlk hnm hC hLS hA hw hl
  have hC : cx D τ s m args RX9 := hC
  have hl : lv_has ls 2 [(0, .ref (ad 156)), (1, .int (iI p1))] := hl
  unfold qX9_signAt at hv
  refine lv_iload_n hx hb dX9_signAt_0 rfl (lv_at hl 1 rfl) ?_
  refine r_if_lt (tgt := 21) hx hb dX9_signAt_1 (by decide) hp1  (fun b1 => ?_) (fun b1 => ?_)
  · have hv := hv.1 b1
    refine r_iconst hx hb dX9_signAt_21 ?_
    exact k_iret (wq_X τ ad) hx hb hr hlk hw hM (by decide) hv dX9_signAt_22
  · have hv := hv.2 b1
    refine lv_iload_n hx hb dX9_signAt_4 rfl (lv_at hl 1 rfl) ?_
    refine lv_aload_n hx hb dX9_signAt_5 rfl (lv_at hl 0 rfl) ?_
    refine gf_X9_15 hx hb hC hw 156 (gX_156 τ ad M) rfl dX9_signAt_6 ?_
    refine r_top (fun x2 e2 => ?_)
    have g2 : iR x2 := by rw [e2]; exact hM.get (by decide) _
    have hv := hv x2 e2 g2
    refine r_icmp_ge (tgt := 21) hx hb dX9_signAt_9 (by decide) hp1 g2 (fun b3 => ?_) (fun b3 => ?_)
    · have hv := hv.1 b3
      refine r_iconst hx hb dX9_signAt_21 ?_
      exact k_iret (wq_X τ ad) hx hb hr hlk hw hM (by decide) hv dX9_signAt_22
    · have hv := hv.2 b3
      refine lv_aload_n hx hb dX9_signAt_12 rfl (lv_at hl 0 rfl) ?_
      refine gf_X9_9 hx hb hC hw 156 (gX_156 τ ad M) rfl dX9_signAt_13 ?_
      refine lv_iload_n hx hb dX9_signAt_16 rfl (lv_at hl 1 rfl) ?_
      obtain ⟨c4, hv⟩ := hv
      obtain ⟨c5, hv⟩ := hv
      refine r_iald hx hb hC hw 157 (gI_X aX_157 τ ad M) c4 c5 (by decide) dX9_signAt_17 ?_
      refine r_top (fun x6 e6 => ?_)
      have g6 : iR x6 := by rw [e6]; exact hM.get aX_157.pos _
      have hv := hv x6 e6 g6
      refine lv_goto (tgt := 22) hx hb dX9_signAt_18 (by decide) ?_
      exact k_iret (wq_X τ ad) hx hb hr hlk hw hM g6 hv dX9_signAt_22
set_option maxHeartbeats 4000000 in
set_option maxRecDepth 100000 in
theorem mX11_avenueFault (l : Launch) (D : va_G) (τ : Nat → ClassId) (ad : Nat → Nat) (sA sV : Nat → Nat) (sz : Nat)   (M : Mem) (hM : MR M) (Q : Int → Mem → Prop) (hv : qX11_avenueFault  M Q) : Met l yX11_avenueFault (lw_w yX11_avenueFault cX11_avenueFault 3 (some .int)) (rmk 2 0 0) (kPc D τ sA sV (WX τ ad M) sz [.ref (ad 155)]) (gQi D (EQi (WX τ ad) MR Q) (va_A (WX τ ad M) sz)) 0 0 (va_A (WX τ ad M) sz) := by
  refine k_met (ret := (some .int)) (Qc := gQi D (EQi (WX τ ad) MR Q)) (by decide +kernel) (Nat.le_of_ble_eq_true rfl) ?_
  intro p e s m args below meth c A ls hx hb hml hr hlk hnm hC hLS hA hw hl
  have hC : cx D τ s m args RX11 := hC
  have hl : lv_has ls 3 [(0, .ref (ad 155))] := hl
  unfold qX11_avenueFault at hv
  have L2 : ∀ (X48 : Mem → Prop), (∀  (M : Mem) (H : Heap) (locs : List Loc) (ls : Array Slot), MR M → X48  M → wS D A s.heap (WX τ ad M) H locs → lv_has ls 3 [(0, .ref (ad 155))] → W p l e (rmk 2 0 0) s m args below meth c H locs 0 0 (MQ below (gQi D (EQi (WX τ ad) MR Q) A) args s 0 0 A) (F0 m 48 ls [])) → ∀ (n : Nat) (v1 : Int) (M : Mem) (H : Heap) (locs : List Loc) (ls : Array Slot), MR M → qX11_avenueFault_L2  X48 Q n v1 M → wS D A s.heap (WX τ ad M) H locs → lv_has ls 3 [(0, .ref (ad 155)), (1, .int (iI v1))] → W p l e (rmk 2 0 0) s m args below meth c H locs 0 0 (MQ below (gQi D (EQi (WX τ ad) MR Q) A) args s 0 0 A) (F0 m 2 ls []) := by
    intro X48 hX48 n
    induction n with
    | zero => intro v1 M H locs ls hM hv; rw [qX11_avenueFault_L2] at hv; exact hv.elim
    | succ n ih =>
      intro v1 M H locs ls hM hv hw hl
      rw [qX11_avenueFault_L2] at hv
      refine lv_iload_n hx hb dX11_avenueFault_2 rfl (lv_at hl 1 rfl) ?_
      refine lv_aload_n hx hb dX11_avenueFault_3 rfl (lv_at hl 0 rfl) ?_
      refine gf_X11_10 hx hb hC hw 155 (gX_155 τ ad M) rfl dX11_avenueFault_4 ?_
      refine gf_X11_119 hx hb hC hw 156 (gX_156 τ ad M) rfl dX11_avenueFault_7 ?_
      refine r_top (fun x1 e1 => ?_)
      have g1 : iR x1 := by rw [e1]; exact hM.get (by decide) _
      have hv := hv x1 e1 g1
      obtain ⟨c2, hv⟩ := hv
      refine r_icmp_ge (tgt := 48) hx hb dX11_avenueFault_10 (by decide) c2 g1 (fun b3 => ?_) (fun b3 => ?_)
      · have hv := hv.1 b3
        exact hX48  M _ _ _ hM hv hw (lv_sub hl [0] rfl)
      · have hv := hv.2 b3
        refine lv_aload_n hx hb dX11_avenueFault_13 rfl (lv_at hl 0 rfl) ?_
        refine gf_X11_10 hx hb hC hw 155 (gX_155 τ ad M) rfl dX11_avenueFault_14 ?_
        refine lv_iload_n hx hb dX11_avenueFault_17 rfl (lv_at hl 1 rfl) ?_
        refine k_cVi (wq_X τ ad) hx hb hml hC hLS hA hw hl.1 (mX9_signAt l D τ ad sA sV _ v1 c2 M hM _ hv) kX9_signAt ml_X11_141 rfl (gX_156 τ ad M) rfl rfl (Nat.le_of_ble_eq_true rfl) (rm_ok (by decide) (by decide)) ⟨Nat.zero_le _, Nat.zero_le _⟩ dX11_avenueFault_18 (fun x4 M4 H locs g4 hM hv hw => ?_)
        have hv := hv g4
        refine lv_istore_n (lv' := [(2, .int (iI x4)), (0, .ref (ad 155)), (1, .int (iI v1))]) hx hb dX11_avenueFault_21 rfl hl (by decide) rfl (fun ls hl => ?_)
        refine lv_iload_n hx hb dX11_avenueFault_22 rfl (lv_at hl 2 rfl) ?_
        refine r_bipush hx hb dX11_avenueFault_23 (by decide +kernel) ?_
        refine r_icmp_eq (tgt := 40) hx hb dX11_avenueFault_25 (by decide) c2 (by decide) (fun b5 => ?_) (fun b5 => ?_)
        · have hv := hv.1 b5
          refine lv_iload_n hx hb dX11_avenueFault_40 rfl (lv_at hl 2 rfl) ?_
          exact k_iret (wq_X τ ad) hx hb hr hlk hw hM c2 hv dX11_avenueFault_41
        · have hv := hv.2 b5
          refine lv_iload_n hx hb dX11_avenueFault_28 rfl (lv_at hl 0 rfl) ?_
          refine r_bipush hx hb dX11_avenueFault_29 (by decide +kernel) ?_
          refine r_icmp_eq (tgt := 42) hx hb dX11_avenueFault_31 (by decide) g4 (by decide) (fun b6 => ?_) (fun b6 => ?_)
          · have hv := hv.1 b6
            refine r_iinc (v := (v1 + 1)) (lv' := [(1, .int (iI (v1 + 1))), (2, .int (iI x4)), (0, .ref (ad 155))]) hx hb dX11_avenueFault_42 hl (k := 2) rfl rfl (by decide) rfl (fun ls hl => ?_)
            refine lv_goto (tgt := 2) hx hb dX11_avenueFault_45 (by decide) ?_
            exact ih (v1 + 1) M4 _ _ _ hM hv hw (lv_sub hl [2, 0] rfl)
          · have hv := hv.2 b6
            refine lv_iload_n hx hb dX11_avenueFault_34 rfl (lv_at hl 0 rfl) ?_
            refine r_bipush hx hb dX11_avenueFault_35 (by decide +kernel) ?_
            refine r_icmp_eq (tgt := 42) hx hb dX11_avenueFault_37 (by decide) g4 (by decide) (fun b7 => ?_) (fun b7 => ?_)
            · have hv := hv.1 b7
              refine r_iinc (v := (v1 + 1)) (lv' := [(1, .int (iI (v1 + 1))), (2, .int (iI x4)), (0, .ref (ad 155))]) hx hb dX11_avenueFault_42 hl (k := 2) rfl rfl (by decide) rfl (fun ls hl => ?_)
              refine lv_goto (tgt := 2) hx hb dX11_avenueFault_45 (by decide) ?_
              exact ih (v1 + 1) M4 _ _ _ hM hv hw (lv_sub hl [2, 0] rfl)
            · have hv := hv.2 b7
              refine lv_iload_n hx hb dX11_avenueFault_40 rfl (lv_at hl 2 rfl) ?_
              exact k_iret (wq_X τ ad) hx hb hr hlk hw hM c2 hv dX11_avenueFault_41
  refine r_iconst hx hb dX11_avenueFault_0 ?_
  refine lv_istore_n (lv' := [(1, .int (iI 0)), (0, .ref (ad 155))]) hx hb dX11_avenueFault_1 rfl hl (by decide) rfl (fun ls hl => ?_)
  obtain ⟨n8, hv⟩ := hv
  refine L2 _ ?_ n8 0 M _ _ _ hM hv hw (lv_sub hl [1, 0] rfl)
  · intro  M H locs ls hM hv hw hl
    refine lv_aload_n hx hb dX11_avenueFault_48 rfl (lv_at hl 0 rfl) ?_
    refine gf_X11_10 hx hb hC hw 155 (gX_155 τ ad M) rfl dX11_avenueFault_49 ?_
    refine gf_X11_119 hx hb hC hw 156 (gX_156 τ ad M) rfl dX11_avenueFault_52 ?_
    refine r_top (fun x9 e9 => ?_)
    have g9 : iR x9 := by rw [e9]; exact hM.get (by decide) _
    have hv := hv x9 e9 g9
    refine r_iconst hx hb dX11_avenueFault_55 ?_
    refine r_icmp_ge (tgt := 69) hx hb dX11_avenueFault_56 (by decide) g9 (by decide) (fun b10 => ?_) (fun b10 => ?_)
    · have hv := hv.1 b10
      refine r_iconst hx hb dX11_avenueFault_69 ?_
      exact k_iret (wq_X τ ad) hx hb hr hlk hw hM (by decide) hv dX11_avenueFault_70
    · have hv := hv.2 b10
      refine lv_aload_n hx hb dX11_avenueFault_59 rfl (lv_at hl 0 rfl) ?_
      refine gf_X11_10 hx hb hC hw 155 (gX_155 τ ad M) rfl dX11_avenueFault_60 ?_
      refine gf_X11_119 hx hb hC hw 156 (gX_156 τ ad M) rfl dX11_avenueFault_63 ?_
      refine r_top (fun x11 e11 => ?_)
      have g11 : iR x11 := by rw [e11]; exact hM.get (by decide) _
      have hv := hv x11 e11 g11
      refine lv_goto (tgt := 70) hx hb dX11_avenueFault_66 (by decide) ?_
      exact k_iret (wq_X τ ad) hx hb hr hlk hw hM g11 hv dX11_avenueFault_70
set_option maxHeartbeats 4000000 in
set_option maxRecDepth 100000 in
theorem mX11_forgetKept (l : Launch) (D : va_G) (τ : Nat → ClassId) (ad : Nat → Nat) (sA sV : Nat → Nat) (sz : Nat)   (M : Mem) (hM : MR M) (Q : Mem → Prop) (hv : qX11_forgetKept  M Q) : Met l yX11_forgetKept (lw_w yX11_forgetKept cX11_forgetKept 2 none) (rmk 1 0 0) (kPc D τ sA sV (WX τ ad M) sz [.ref (ad 155)]) (gQv D (EQv (WX τ ad) MR Q) (va_A (WX τ ad M) sz)) 0 0 (va_A (WX τ ad M) sz) := by
  refine k_met (ret := none) (Qc := gQv D (EQv (WX τ ad) MR Q)) (by decide +kernel) (Nat.le_of_ble_eq_true rfl) ?_
  intro p e s m args below meth c A ls hx hb hml hr hlk hnm hC hLS hA hw hl
  have hC : cx D τ s m args RX11 := hC
  have hl : lv_has ls 2 [(0, .ref (ad 155))] := hl
  unfold qX11_forgetKept at hv
  have L2 : ∀ (n : Nat) (v1 : Int) (M : Mem) (H : Heap) (locs : List Loc) (ls : Array Slot), MR M → qX11_forgetKept_L2   Q n v1 M → wS D A s.heap (WX τ ad M) H locs → lv_has ls 2 [(0, .ref (ad 155)), (1, .int (iI v1))] → W p l e (rmk 1 0 0) s m args below meth c H locs 0 0 (MQ below (gQv D (EQv (WX τ ad) MR Q) A) args s 0 0 A) (F0 m 2 ls []) := by
    intro n
    induction n with
    | zero => intro v1 M H locs ls hM hv; rw [qX11_forgetKept_L2] at hv; exact hv.elim
    | succ n ih =>
      intro v1 M H locs ls hM hv hw hl
      rw [qX11_forgetKept_L2] at hv
      refine lv_iload_n hx hb dX11_forgetKept_2 rfl (lv_at hl 1 rfl) ?_
      refine r_iconst hx hb dX11_forgetKept_3 ?_
      obtain ⟨c1, hv⟩ := hv
      refine r_icmp_ge (tgt := 20) hx hb dX11_forgetKept_4 (by decide) c1 (by decide) (fun b2 => ?_) (fun b2 => ?_)
      · have hv := hv.1 b2
        exact k_vret (wq_X τ ad) hx hb hr hlk hw hM hv dX11_forgetKept_20
      · have hv := hv.2 b2
        refine lv_aload_n hx hb dX11_forgetKept_7 rfl (lv_at hl 0 rfl) ?_
        refine gf_X11_59 hx hb hC hw 155 (gX_155 τ ad M) rfl dX11_forgetKept_8 ?_
        refine lv_iload_n hx hb dX11_forgetKept_11 rfl (lv_at hl 1 rfl) ?_
        refine r_iconst hx hb dX11_forgetKept_12 ?_
        obtain ⟨c3, hv⟩ := hv
        obtain ⟨c4, hv⟩ := hv
        obtain ⟨M5, e5⟩ : ∃ M5 : Mem, M5 = up2 M 166 v1 0 := ⟨_, rfl⟩
        have hv := hv M5 e5
        refine r_zast (ws' := (WX τ ad M5)) hx hb hC hw 166 (gZ_X aX_166 τ ad M) c3 c4 (by decide) (by decide) (by rw [e5]; exact sZ_X aX_166 τ ad M _ _) dX11_forgetKept_13 (fun H locs hw => ?_)
        have hM : MR M5 := by rw [e5]; exact hM.put aX_166.pos (by decide)
        refine r_iinc (v := (v1 + 1)) (lv' := [(1, .int (iI (v1 + 1))), (0, .ref (ad 155))]) hx hb dX11_forgetKept_14 hl (k := 1) rfl rfl (by decide) rfl (fun ls hl => ?_)
        refine lv_goto (tgt := 2) hx hb dX11_forgetKept_17 (by decide) ?_
        exact ih (v1 + 1) M5 _ _ _ hM hv hw (lv_sub hl [1, 0] rfl)
  refine r_iconst hx hb dX11_forgetKept_0 ?_
  refine lv_istore_n (lv' := [(1, .int (iI 0)), (0, .ref (ad 155))]) hx hb dX11_forgetKept_1 rfl hl (by decide) rfl (fun ls hl => ?_)
  obtain ⟨n6, hv⟩ := hv
  refine L2  n6 0 M _ _ _ hM hv hw (lv_sub hl [1, 0] rfl)
set_option maxHeartbeats 4000000 in
set_option maxRecDepth 100000 in
theorem mX1_clear (l : Launch) (D : va_G) (τ : Nat → ClassId) (ad : Nat → Nat) (sA sV : Nat → Nat) (sz : Nat)   (M : Mem) (hM : MR M) (Q : Mem → Prop) (hv : qX1_clear  M Q) : Met l yX1_clear (lw_w yX1_clear cX1_clear 1 none) (rmk 1 0 0) (kPc D τ sA sV (WX τ ad M) sz [.ref (ad 163)]) (gQv D (EQv (WX τ ad) MR Q) (va_A (WX τ ad M) sz)) 0 0 (va_A (WX τ ad M) sz) := by
  refine k_met (ret := none) (Qc := gQv D (EQv (WX τ ad) MR Q)) (by decide +kernel) (Nat.le_of_ble_eq_true rfl) ?_
  intro p e s m args below meth c A ls hx hb hml hr hlk hnm hC hLS hA hw hl
  have hC : cx D τ s m args RX1 := hC
  have hl : lv_has ls 1 [(0, .ref (ad 163))] := hl
  unfold qX1_clear at hv
  refine lv_aload_n hx hb dX1_clear_0 rfl (lv_at hl 0 rfl) ?_
  refine r_iconst hx hb dX1_clear_1 ?_
  obtain ⟨M1, e1⟩ : ∃ M1 : Mem, M1 = up2 M 163 2 0 := ⟨_, rfl⟩
  have hv := hv M1 e1
  refine pf_X1_21 (ws' := (WX τ ad M1)) hx hb hC hw 163 (gX_163 τ ad M) (Nat.le_of_ble_eq_true rfl) (by rw [e1]; exact sX_163_2 τ ad M _) dX1_clear_2 (fun H locs hw => ?_)
  have hM : MR M1 := by rw [e1]; exact hM.put (by decide) (by decide)
  exact k_vret (wq_X τ ad) hx hb hr hlk hw hM hv dX1_clear_5
set_option maxHeartbeats 4000000 in
set_option maxRecDepth 100000 in
theorem mX6_clear (l : Launch) (D : va_G) (τ : Nat → ClassId) (ad : Nat → Nat) (sA sV : Nat → Nat) (sz : Nat) (k0 : Nat) (hk0 : isS k0) (M : Mem) (hM : MR M) (Q : Mem → Prop) (hv : qX6_clear k0 M Q) : Met l yX6_clear (lw_w yX6_clear cX6_clear 1 none) (rmk 1 0 0) (kPc D τ sA sV (WX τ ad M) sz [.ref (ad k0)]) (gQv D (EQv (WX τ ad) MR Q) (va_A (WX τ ad M) sz)) 0 0 (va_A (WX τ ad M) sz) := by
  refine k_met (ret := none) (Qc := gQv D (EQv (WX τ ad) MR Q)) (by decide +kernel) (Nat.le_of_ble_eq_true rfl) ?_
  intro p e s m args below meth c A ls hx hb hml hr hlk hnm hC hLS hA hw hl
  have hC : cx D τ s m args RX6 := hC
  have hl : lv_has ls 1 [(0, .ref (ad k0))] := hl
  unfold qX6_clear at hv
  refine lv_aload_n hx hb dX6_clear_0 rfl (lv_at hl 0 rfl) ?_
  refine r_iconst hx hb dX6_clear_1 ?_
  obtain ⟨M1, e1⟩ : ∃ M1 : Mem, M1 = up2 M k0 6 0 := ⟨_, rfl⟩
  have hv := hv M1 e1
  refine pf_X6_30 (ws' := (WX τ ad M1)) hx hb hC hw k0 (gS_X hk0 τ ad M) (Nat.le_of_ble_eq_true rfl) (by rw [e1]; exact sS_6 hk0 τ ad M _) dX6_clear_2 (fun H locs hw => ?_)
  have hM : MR M1 := by rw [e1]; exact hM.put hk0.pos (by decide)
  refine lv_aload_n hx hb dX6_clear_5 rfl (lv_at hl 0 rfl) ?_
  refine r_iconst hx hb dX6_clear_6 ?_
  obtain ⟨M2, e2⟩ : ∃ M2 : Mem, M2 = up2 M1 k0 7 0 := ⟨_, rfl⟩
  have hv := hv M2 e2
  refine pf_X6_34 (ws' := (WX τ ad M2)) hx hb hC hw k0 (gS_X hk0 τ ad M1) (Nat.le_of_ble_eq_true rfl) (by rw [e2]; exact sS_7 hk0 τ ad M1 _) dX6_clear_7 (fun H locs hw => ?_)
  have hM : MR M2 := by rw [e2]; exact hM.put hk0.pos (by decide)
  refine lv_aload_n hx hb dX6_clear_10 rfl (lv_at hl 0 rfl) ?_
  refine r_iconst hx hb dX6_clear_11 ?_
  obtain ⟨M3, e3⟩ : ∃ M3 : Mem, M3 = up2 M2 k0 8 0 := ⟨_, rfl⟩
  have hv := hv M3 e3
  refine pf_X6_37 (ws' := (WX τ ad M3)) hx hb hC hw k0 (gS_X hk0 τ ad M2) (Nat.le_of_ble_eq_true rfl) (by rw [e3]; exact sS_8 hk0 τ ad M2 _) dX6_clear_12 (fun H locs hw => ?_)
  have hM : MR M3 := by rw [e3]; exact hM.put hk0.pos (by decide)
  refine lv_aload_n hx hb dX6_clear_15 rfl (lv_at hl 0 rfl) ?_
  refine r_iconst hx hb dX6_clear_16 ?_
  obtain ⟨M4, e4⟩ : ∃ M4 : Mem, M4 = up2 M3 k0 9 0 := ⟨_, rfl⟩
  have hv := hv M4 e4
  refine pf_X6_40 (ws' := (WX τ ad M4)) hx hb hC hw k0 (gS_X hk0 τ ad M3) (Nat.le_of_ble_eq_true rfl) (by rw [e4]; exact sS_9 hk0 τ ad M3 _) dX6_clear_17 (fun H locs hw => ?_)
  have hM : MR M4 := by rw [e4]; exact hM.put hk0.pos (by decide)
  refine lv_aload_n hx hb dX6_clear_20 rfl (lv_at hl 0 rfl) ?_
  refine r_iconst hx hb dX6_clear_21 ?_
  obtain ⟨M5, e5⟩ : ∃ M5 : Mem, M5 = up2 M4 k0 10 0 := ⟨_, rfl⟩
  have hv := hv M5 e5
  refine pf_X6_43 (ws' := (WX τ ad M5)) hx hb hC hw k0 (gS_X hk0 τ ad M4) (Nat.le_of_ble_eq_true rfl) (by rw [e5]; exact sS_10 hk0 τ ad M4 _) dX6_clear_22 (fun H locs hw => ?_)
  have hM : MR M5 := by rw [e5]; exact hM.put hk0.pos (by decide)
  exact k_vret (wq_X τ ad) hx hb hr hlk hw hM hv dX6_clear_25
set_option maxHeartbeats 4000000 in
set_option maxRecDepth 100000 in
theorem mX8_become (l : Launch) (D : va_G) (τ : Nat → ClassId) (ad : Nat → Nat) (sA sV : Nat → Nat) (sz : Nat)   (M : Mem) (hM : MR M) (Q : Mem → Prop) (hv : qX8_become  M Q) : Met l yX8_become (lw_w yX8_become cX8_become 3 none) (rmk 2 0 0) (kPc D τ sA sV (WX τ ad M) sz [.ref (ad 158), .ref (ad 156)]) (gQv D (EQv (WX τ ad) MR Q) (va_A (WX τ ad M) sz)) 0 0 (va_A (WX τ ad M) sz) := by
  refine k_met (ret := none) (Qc := gQv D (EQv (WX τ ad) MR Q)) (by decide +kernel) (Nat.le_of_ble_eq_true rfl) ?_
  intro p e s m args below meth c A ls hx hb hml hr hlk hnm hC hLS hA hw hl
  have hC : cx D τ s m args RX8 := hC
  have hl : lv_has ls 3 [(0, .ref (ad 158)), (1, .ref (ad 156))] := hl
  unfold qX8_become at hv
  have J45 : ∀ (R : Int → Mem → Prop), (∀ (v2 : Int) (M : Mem) (H : Heap) (locs : List Loc) (ls : Array Slot), MR M → R v2 M → wS D A s.heap (WX τ ad M) H locs → lv_has ls 3 [(0, .ref (ad 158)), (1, .ref (ad 156)), (2, .int (iI v2))] → W p l e (rmk 2 0 0) s m args below meth c H locs 0 0 (MQ below (gQv D (EQv (WX τ ad) MR Q) A) args s 0 0 A) (F0 m 15 ls [])) → ∀ (v2 : Int) (t0 : Int) (t1 : Int) (M : Mem) (H : Heap) (locs : List Loc) (ls : Array Slot), MR M → qX8_become_J45  R  Q v2 t0 t1 M → wS D A s.heap (WX τ ad M) H locs → lv_has ls 3 [(0, .ref (ad 158)), (1, .ref (ad 156)), (2, .int (iI v2))] → W p l e (rmk 2 0 0) s m args below meth c H locs 0 0 (MQ below (gQv D (EQv (WX τ ad) MR Q) A) args s 0 0 A) (F0 m 45 ls [.int (iI t0), .int (iI t1), .ref (ad 158)]) := by
    intro R hR  v2 t0 t1 M H locs ls hM hv hw hl
    unfold qX8_become_J45 at hv
    refine r_iorF hx hb dX8_become_45 (fun x10 e10 g10 => ?_)
    have hv := hv x10 e10 g10
    obtain ⟨M11, e11⟩ : ∃ M11 : Mem, M11 = up2 M 158 2 x10 := ⟨_, rfl⟩
    have hv := hv M11 e11
    refine pf_X8_19 (ws' := (WX τ ad M11)) hx hb hC hw 158 (gX_158 τ ad M) (Nat.le_of_ble_eq_true rfl) (by rw [e11]; exact sX_158_2 τ ad M _) dX8_become_46 (fun H locs hw => ?_)
    have hM : MR M11 := by rw [e11]; exact hM.put (by decide) g10
    refine r_iinc (v := (v2 + 1)) (lv' := [(2, .int (iI (v2 + 1))), (0, .ref (ad 158)), (1, .ref (ad 156))]) hx hb dX8_become_49 hl (k := 2) rfl rfl (by decide) rfl (fun ls hl => ?_)
    refine lv_goto (tgt := 15) hx hb dX8_become_52 (by decide) ?_
    exact hR (v2 + 1) M11 _ _ _ hM hv hw (lv_sub hl [1, 2, 0] rfl)
  have L15 : ∀ (n : Nat) (v2 : Int) (M : Mem) (H : Heap) (locs : List Loc) (ls : Array Slot), MR M → qX8_become_L15   Q n v2 M → wS D A s.heap (WX τ ad M) H locs → lv_has ls 3 [(0, .ref (ad 158)), (1, .ref (ad 156)), (2, .int (iI v2))] → W p l e (rmk 2 0 0) s m args below meth c H locs 0 0 (MQ below (gQv D (EQv (WX τ ad) MR Q) A) args s 0 0 A) (F0 m 15 ls []) := by
    intro n
    induction n with
    | zero => intro v2 M H locs ls hM hv; rw [qX8_become_L15] at hv; exact hv.elim
    | succ n ih =>
      intro v2 M H locs ls hM hv hw hl
      rw [qX8_become_L15] at hv
      refine lv_iload_n hx hb dX8_become_15 rfl (lv_at hl 2 rfl) ?_
      refine lv_aload_n hx hb dX8_become_16 rfl (lv_at hl 0 rfl) ?_
      refine gf_X8_15 hx hb hC hw 158 (gX_158 τ ad M) rfl dX8_become_17 ?_
      refine r_top (fun x4 e4 => ?_)
      have g4 : iR x4 := by rw [e4]; exact hM.get (by decide) _
      have hv := hv x4 e4 g4
      obtain ⟨c5, hv⟩ := hv
      refine r_icmp_ge (tgt := 55) hx hb dX8_become_20 (by decide) c5 g4 (fun b6 => ?_) (fun b6 => ?_)
      · have hv := hv.1 b6
        exact k_vret (wq_X τ ad) hx hb hr hlk hw hM hv dX8_become_55
      · have hv := hv.2 b6
        refine lv_aload_n hx hb dX8_become_23 rfl (lv_at hl 0 rfl) ?_
        refine lv_dup hx hb dX8_become_24 rfl ?_
        refine gf_X8_19 hx hb hC hw 158 (gX_158 τ ad M) rfl dX8_become_25 ?_
        refine r_top (fun x7 e7 => ?_)
        have g7 : iR x7 := by rw [e7]; exact hM.get (by decide) _
        have hv := hv x7 e7 g7
        refine lv_aload_n hx hb dX8_become_28 rfl (lv_at hl 1 rfl) ?_
        refine lv_iload_n hx hb dX8_become_29 rfl (lv_at hl 2 rfl) ?_
        refine k_cVi (wq_X τ ad) hx hb hml hC hLS hA hw hl.1 (mX9_signAt l D τ ad sA sV _ v2 c5 M hM _ hv) kX9_signAt ml_X8_30 rfl (gX_156 τ ad M) rfl rfl (Nat.le_of_ble_eq_true rfl) (rm_ok (by decide) (by decide)) ⟨Nat.zero_le _, Nat.zero_le _⟩ dX8_become_30 (fun x8 M8 H locs g8 hM hv hw => ?_)
        have hv := hv g8
        refine r_bipush hx hb dX8_become_33 (by decide +kernel) ?_
        refine r_icmp_ne (tgt := 44) hx hb dX8_become_35 (by decide) g8 (by decide) (fun b9 => ?_) (fun b9 => ?_)
        · have hv := hv.1 b9
          refine r_iconst hx hb dX8_become_44 ?_
          exact J45 _ ih  v2 0 x7 M8 _ _ _ hM hv hw (lv_sub hl [0, 1, 2] rfl)
        · have hv := hv.2 b9
          refine r_iconst hx hb dX8_become_38 ?_
          refine lv_iload_n hx hb dX8_become_39 rfl (lv_at hl 2 rfl) ?_
          refine r_ishlF hx hb dX8_become_40 (fun x12 e12 g12 => ?_)
          have hv := hv x12 e12 g12
          refine lv_goto (tgt := 45) hx hb dX8_become_41 (by decide) ?_
          exact J45 _ ih  v2 x12 x7 M8 _ _ _ hM hv hw (lv_sub hl [0, 1, 2] rfl)
  refine lv_aload_n hx hb dX8_become_0 rfl (lv_at hl 0 rfl) ?_
  refine lv_aload_n hx hb dX8_become_1 rfl (lv_at hl 1 rfl) ?_
  refine gf_X8_25 hx hb hC hw 156 (gX_156 τ ad M) rfl dX8_become_2 ?_
  refine r_top (fun x1 e1 => ?_)
  have g1 : iR x1 := by rw [e1]; exact hM.get (by decide) _
  have hv := hv x1 e1 g1
  obtain ⟨M2, e2⟩ : ∃ M2 : Mem, M2 = up2 M 158 1 x1 := ⟨_, rfl⟩
  have hv := hv M2 e2
  refine pf_X8_15 (ws' := (WX τ ad M2)) hx hb hC hw 158 (gX_158 τ ad M) (Nat.le_of_ble_eq_true rfl) (by rw [e2]; exact sX_158_1 τ ad M _) dX8_become_5 (fun H locs hw => ?_)
  have hM : MR M2 := by rw [e2]; exact hM.put (by decide) g1
  refine lv_aload_n hx hb dX8_become_8 rfl (lv_at hl 0 rfl) ?_
  refine r_iconst hx hb dX8_become_9 ?_
  obtain ⟨M3, e3⟩ : ∃ M3 : Mem, M3 = up2 M2 158 2 0 := ⟨_, rfl⟩
  have hv := hv M3 e3
  refine pf_X8_19 (ws' := (WX τ ad M3)) hx hb hC hw 158 (gX_158 τ ad M2) (Nat.le_of_ble_eq_true rfl) (by rw [e3]; exact sX_158_2 τ ad M2 _) dX8_become_10 (fun H locs hw => ?_)
  have hM : MR M3 := by rw [e3]; exact hM.put (by decide) (by decide)
  refine r_iconst hx hb dX8_become_13 ?_
  refine lv_istore_n (lv' := [(2, .int (iI 0)), (0, .ref (ad 158)), (1, .ref (ad 156))]) hx hb dX8_become_14 rfl hl (by decide) rfl (fun ls hl => ?_)
  obtain ⟨n13, hv⟩ := hv
  refine L15  n13 0 M3 _ _ _ hM hv hw (lv_sub hl [1, 2, 0] rfl)
set_option maxHeartbeats 4000000 in
set_option maxRecDepth 100000 in
theorem mX9_clear (l : Launch) (D : va_G) (τ : Nat → ClassId) (ad : Nat → Nat) (sA sV : Nat → Nat) (sz : Nat)   (M : Mem) (hM : MR M) (Q : Mem → Prop) (hv : qX9_clear  M Q) : Met l yX9_clear (lw_w yX9_clear cX9_clear 1 none) (rmk 1 0 0) (kPc D τ sA sV (WX τ ad M) sz [.ref (ad 156)]) (gQv D (EQv (WX τ ad) MR Q) (va_A (WX τ ad M) sz)) 0 0 (va_A (WX τ ad M) sz) := by
  refine k_met (ret := none) (Qc := gQv D (EQv (WX τ ad) MR Q)) (by decide +kernel) (Nat.le_of_ble_eq_true rfl) ?_
  intro p e s m args below meth c A ls hx hb hml hr hlk hnm hC hLS hA hw hl
  have hC : cx D τ s m args RX9 := hC
  have hl : lv_has ls 1 [(0, .ref (ad 156))] := hl
  unfold qX9_clear at hv
  refine lv_aload_n hx hb dX9_clear_0 rfl (lv_at hl 0 rfl) ?_
  refine r_iconst hx hb dX9_clear_1 ?_
  obtain ⟨M1, e1⟩ : ∃ M1 : Mem, M1 = up2 M 156 1 0 := ⟨_, rfl⟩
  have hv := hv M1 e1
  refine pf_X9_15 (ws' := (WX τ ad M1)) hx hb hC hw 156 (gX_156 τ ad M) (Nat.le_of_ble_eq_true rfl) (by rw [e1]; exact sX_156_1 τ ad M _) dX9_clear_2 (fun H locs hw => ?_)
  have hM : MR M1 := by rw [e1]; exact hM.put (by decide) (by decide)
  exact k_vret (wq_X τ ad) hx hb hr hlk hw hM hv dX9_clear_5
set_option maxHeartbeats 4000000 in
set_option maxRecDepth 100000 in
theorem mX11_avenue (l : Launch) (D : va_G) (τ : Nat → ClassId) (ad : Nat → Nat) (sA sV : Nat → Nat) (sz : Nat)   (M : Mem) (hM : MR M) (Q : Int → Mem → Prop) (hv : qX11_avenue  M Q) : Met l yX11_avenue (lw_w yX11_avenue cX11_avenue 3 (some .int)) (rmk 3 0 0) (kPc D τ sA sV (WX τ ad M) sz [.ref (ad 155)]) (gQi D (EQi (WX τ ad) MR Q) (va_A (WX τ ad M) sz)) 0 0 (va_A (WX τ ad M) sz) := by
  refine k_met (ret := (some .int)) (Qc := gQi D (EQi (WX τ ad) MR Q)) (by decide +kernel) (Nat.le_of_ble_eq_true rfl) ?_
  intro p e s m args below meth c A ls hx hb hml hr hlk hnm hC hLS hA hw hl
  have hC : cx D τ s m args RX11 := hC
  have hl : lv_has ls 3 [(0, .ref (ad 155))] := hl
  unfold qX11_avenue at hv
  have J47 : ∀ (v1 : Int) (v2 : Int) (M : Mem) (H : Heap) (locs : List Loc) (ls : Array Slot), MR M → qX11_avenue_J47  Q v1 v2 M → wS D A s.heap (WX τ ad M) H locs → lv_has ls 3 [(0, .ref (ad 155)), (1, .int (iI v1)), (2, .int (iI v2))] → W p l e (rmk 3 0 0) s m args below meth c H locs 0 0 (MQ below (gQi D (EQi (WX τ ad) MR Q) A) args s 0 0 A) (F0 m 47 ls []) := by
    intro v1 v2 M H locs ls hM hv hw hl
    unfold qX11_avenue_J47 at hv
    refine lv_aload_n hx hb dX11_avenue_47 rfl (lv_at hl 0 rfl) ?_
    refine gf_X11_10 hx hb hC hw 155 (gX_155 τ ad M) rfl dX11_avenue_48 ?_
    refine k_cVv (wq_X τ ad) hx hb hml hC hLS hA hw hl.1 (mX9_clear l D τ ad sA sV _   M hM _ hv) kX9_clear ml_X11_140 rfl (gX_156 τ ad M) rfl rfl (Nat.le_of_ble_eq_true rfl) (rm_ok (by decide) (by decide)) ⟨Nat.zero_le _, Nat.zero_le _⟩ dX11_avenue_51 (fun M4 H locs hM hv hw => ?_)
    refine lv_iload_n hx hb dX11_avenue_54 rfl (lv_at hl 1 rfl) ?_
    refine r_iconst hx hb dX11_avenue_55 ?_
    obtain ⟨c5, hv⟩ := hv
    refine r_icmp_ne (tgt := 63) hx hb dX11_avenue_56 (by decide) c5 (by decide) (fun b6 => ?_) (fun b6 => ?_)
    · have hv := hv.1 b6
      refine r_iconst hx hb dX11_avenue_63 ?_
      refine lv_iload_n hx hb dX11_avenue_64 rfl (lv_at hl 1 rfl) ?_
      refine r_isub (z := ((-1) - v1)) hx hb dX11_avenue_65 rfl ?_
      obtain ⟨c7, hv⟩ := hv
      exact k_iret (wq_X τ ad) hx hb hr hlk hw hM c7 hv dX11_avenue_66
    · have hv := hv.2 b6
      refine lv_iload_n hx hb dX11_avenue_59 rfl (lv_at hl 2 rfl) ?_
      refine lv_goto (tgt := 66) hx hb dX11_avenue_60 (by decide) ?_
      obtain ⟨c8, hv⟩ := hv
      exact k_iret (wq_X τ ad) hx hb hr hlk hw hM c8 hv dX11_avenue_66
  refine lv_aload_n hx hb dX11_avenue_0 rfl (lv_at hl 0 rfl) ?_
  refine k_cVi (wq_X τ ad) hx hb hml hC hLS hA hw hl.1 (mX11_avenueFault l D τ ad sA sV _   M hM _ hv) kX11_avenueFault ml_X11_125 rfl (gX_155 τ ad M) rfl rfl (Nat.le_of_ble_eq_true rfl) (rm_ok (by decide) (by decide)) ⟨Nat.zero_le _, Nat.zero_le _⟩ dX11_avenue_1 (fun x1 M1 H locs g1 hM hv hw => ?_)
  have hv := hv g1
  refine lv_istore_n (lv' := [(1, .int (iI x1)), (0, .ref (ad 155))]) hx hb dX11_avenue_4 rfl hl (by decide) rfl (fun ls hl => ?_)
  refine lv_aload_n hx hb dX11_avenue_5 rfl (lv_at hl 1 rfl) ?_
  refine gf_X11_10 hx hb hC hw 155 (gX_155 τ ad M1) rfl dX11_avenue_6 ?_
  refine gf_X11_119 hx hb hC hw 156 (gX_156 τ ad M1) rfl dX11_avenue_9 ?_
  refine r_top (fun x2 e2 => ?_)
  have g2 : iR x2 := by rw [e2]; exact hM.get (by decide) _
  have hv := hv x2 e2 g2
  refine lv_istore_n (lv' := [(2, .int (iI x2)), (1, .int (iI x1)), (0, .ref (ad 155))]) hx hb dX11_avenue_12 rfl hl (by decide) rfl (fun ls hl => ?_)
  refine lv_iload_n hx hb dX11_avenue_13 rfl (lv_at hl 1 rfl) ?_
  refine r_iconst hx hb dX11_avenue_14 ?_
  refine r_icmp_ne (tgt := 47) hx hb dX11_avenue_15 (by decide) g1 (by decide) (fun b3 => ?_) (fun b3 => ?_)
  · have hv := hv.1 b3
    exact J47 x1 x2 M1 _ _ _ hM hv hw (lv_sub hl [2, 1, 0] rfl)
  · have hv := hv.2 b3
    refine lv_aload_n hx hb dX11_avenue_18 rfl (lv_at hl 2 rfl) ?_
    refine gf_X11_19 hx hb hC hw 155 (gX_155 τ ad M1) rfl dX11_avenue_19 ?_
    refine lv_aload_n hx hb dX11_avenue_22 rfl (lv_at hl 2 rfl) ?_
    refine gf_X11_10 hx hb hC hw 155 (gX_155 τ ad M1) rfl dX11_avenue_23 ?_
    refine k_cVv (wq_X τ ad) hx hb hml hC hLS hA hw hl.1 (mX8_become l D τ ad sA sV _   M1 hM _ hv) kX8_become ml_X11_129 rfl (gX_158 τ ad M1) rfl rfl (Nat.le_of_ble_eq_true rfl) (rm_ok (by decide) (by decide)) ⟨Nat.zero_le _, Nat.zero_le _⟩ dX11_avenue_26 (fun M9 H locs hM hv hw => ?_)
    refine lv_aload_n hx hb dX11_avenue_29 rfl (lv_at hl 2 rfl) ?_
    refine gf_X11_26 hx hb hC hw 155 (gX_155 τ ad M9) rfl dX11_avenue_30 ?_
    refine k_cVv (wq_X τ ad) hx hb hml hC hLS hA hw hl.1 (mX6_clear l D τ ad sA sV _ 1 (by decide) M9 hM _ hv) kX6_clear ml_X11_133 rfl (gS_X (by decide) τ ad M9) rfl rfl (Nat.le_of_ble_eq_true rfl) (rm_ok (by decide) (by decide)) ⟨Nat.zero_le _, Nat.zero_le _⟩ dX11_avenue_33 (fun M10 H locs hM hv hw => ?_)
    refine lv_aload_n hx hb dX11_avenue_36 rfl (lv_at hl 2 rfl) ?_
    refine gf_X11_51 hx hb hC hw 155 (gX_155 τ ad M10) rfl dX11_avenue_37 ?_
    refine k_cVv (wq_X τ ad) hx hb hml hC hLS hA hw hl.1 (mX1_clear l D τ ad sA sV _   M10 hM _ hv) kX1_clear ml_X11_136 rfl (gX_163 τ ad M10) rfl rfl (Nat.le_of_ble_eq_true rfl) (rm_ok (by decide) (by decide)) ⟨Nat.zero_le _, Nat.zero_le _⟩ dX11_avenue_40 (fun M11 H locs hM hv hw => ?_)
    refine lv_aload_n hx hb dX11_avenue_43 rfl (lv_at hl 2 rfl) ?_
    refine k_cVv (wq_X τ ad) hx hb hml hC hLS hA hw hl.1 (mX11_forgetKept l D τ ad sA sV _   M11 hM _ hv) kX11_forgetKept ml_X11_137 rfl (gX_155 τ ad M11) rfl rfl (Nat.le_of_ble_eq_true rfl) (rm_ok (by decide) (by decide)) ⟨Nat.zero_le _, Nat.zero_le _⟩ dX11_avenue_44 (fun M12 H locs hM hv hw => ?_)
    exact J47 x1 x2 M12 _ _ _ hM hv hw (lv_sub hl [2, 1, 0] rfl)
set_option maxHeartbeats 4000000 in
set_option maxRecDepth 100000 in
theorem mX8_gate (l : Launch) (D : va_G) (τ : Nat → ClassId) (ad : Nat → Nat) (sA sV : Nat → Nat) (sz : Nat)   (M : Mem) (hM : MR M) (Q : Int → Mem → Prop) (hv : qX8_gate  M Q) : Met l yX8_gate (lw_w yX8_gate cX8_gate 1 (some .int)) (rmk 1 0 0) (kPc D τ sA sV (WX τ ad M) sz [.ref (ad 158)]) (gQi D (EQi (WX τ ad) MR Q) (va_A (WX τ ad M) sz)) 0 0 (va_A (WX τ ad M) sz) := by
  refine k_met (ret := (some .int)) (Qc := gQi D (EQi (WX τ ad) MR Q)) (by decide +kernel) (Nat.le_of_ble_eq_true rfl) ?_
  intro p e s m args below meth c A ls hx hb hml hr hlk hnm hC hLS hA hw hl
  have hC : cx D τ s m args RX8 := hC
  have hl : lv_has ls 1 [(0, .ref (ad 158))] := hl
  unfold qX8_gate at hv
  refine lv_aload_n hx hb dX8_gate_0 rfl (lv_at hl 0 rfl) ?_
  refine gf_X8_15 hx hb hC hw 158 (gX_158 τ ad M) rfl dX8_gate_1 ?_
  refine r_top (fun x1 e1 => ?_)
  have g1 : iR x1 := by rw [e1]; exact hM.get (by decide) _
  have hv := hv x1 e1 g1
  refine r_iconst hx hb dX8_gate_4 ?_
  refine r_isub (z := (x1 - 1)) hx hb dX8_gate_5 rfl ?_
  obtain ⟨c2, hv⟩ := hv
  exact k_iret (wq_X τ ad) hx hb hr hlk hw hM c2 hv dX8_gate_6
set_option maxHeartbeats 4000000 in
set_option maxRecDepth 100000 in
theorem mX9_back (l : Launch) (D : va_G) (τ : Nat → ClassId) (ad : Nat → Nat) (sA sV : Nat → Nat) (sz : Nat)   (M : Mem) (hM : MR M) (Q : Mem → Prop) (hv : qX9_back  M Q) : Met l yX9_back (lw_w yX9_back cX9_back 1 none) (rmk 1 0 0) (kPc D τ sA sV (WX τ ad M) sz [.ref (ad 156)]) (gQv D (EQv (WX τ ad) MR Q) (va_A (WX τ ad M) sz)) 0 0 (va_A (WX τ ad M) sz) := by
  refine k_met (ret := none) (Qc := gQv D (EQv (WX τ ad) MR Q)) (by decide +kernel) (Nat.le_of_ble_eq_true rfl) ?_
  intro p e s m args below meth c A ls hx hb hml hr hlk hnm hC hLS hA hw hl
  have hC : cx D τ s m args RX9 := hC
  have hl : lv_has ls 1 [(0, .ref (ad 156))] := hl
  unfold qX9_back at hv
  refine lv_aload_n hx hb dX9_back_0 rfl (lv_at hl 0 rfl) ?_
  refine gf_X9_19 hx hb hC hw 156 (gX_156 τ ad M) rfl dX9_back_1 ?_
  refine r_top (fun x1 e1 => ?_)
  have g1 : iR x1 := by rw [e1]; exact hM.get (by decide) _
  have hv := hv x1 e1 g1
  refine r_if_le (tgt := 17) hx hb dX9_back_4 (by decide) g1  (fun b2 => ?_) (fun b2 => ?_)
  · have hv := hv.1 b2
    exact k_vret (wq_X τ ad) hx hb hr hlk hw hM hv dX9_back_17
  · have hv := hv.2 b2
    refine lv_aload_n hx hb dX9_back_7 rfl (lv_at hl 0 rfl) ?_
    refine lv_dup hx hb dX9_back_8 rfl ?_
    refine gf_X9_19 hx hb hC hw 156 (gX_156 τ ad M) rfl dX9_back_9 ?_
    refine r_top (fun x3 e3 => ?_)
    have g3 : iR x3 := by rw [e3]; exact hM.get (by decide) _
    have hv := hv x3 e3 g3
    refine r_iconst hx hb dX9_back_12 ?_
    refine r_isub (z := (x3 - 1)) hx hb dX9_back_13 rfl ?_
    obtain ⟨c4, hv⟩ := hv
    obtain ⟨M5, e5⟩ : ∃ M5 : Mem, M5 = up2 M 156 2 (x3 - 1) := ⟨_, rfl⟩
    have hv := hv M5 e5
    refine pf_X9_19 (ws' := (WX τ ad M5)) hx hb hC hw 156 (gX_156 τ ad M) (Nat.le_of_ble_eq_true rfl) (by rw [e5]; exact sX_156_2 τ ad M _) dX9_back_14 (fun H locs hw => ?_)
    have hM : MR M5 := by rw [e5]; exact hM.put (by decide) c4
    exact k_vret (wq_X τ ad) hx hb hr hlk hw hM hv dX9_back_17
set_option maxHeartbeats 4000000 in
set_option maxRecDepth 100000 in
theorem mX9_look (l : Launch) (D : va_G) (τ : Nat → ClassId) (ad : Nat → Nat) (sA sV : Nat → Nat) (sz : Nat)   (M : Mem) (hM : MR M) (Q : Int → Mem → Prop) (hv : qX9_look  M Q) : Met l yX9_look (lw_w yX9_look cX9_look 1 (some .int)) (rmk 1 0 0) (kPc D τ sA sV (WX τ ad M) sz [.ref (ad 156)]) (gQi D (EQi (WX τ ad) MR Q) (va_A (WX τ ad M) sz)) 0 0 (va_A (WX τ ad M) sz) := by
  refine k_met (ret := (some .int)) (Qc := gQi D (EQi (WX τ ad) MR Q)) (by decide +kernel) (Nat.le_of_ble_eq_true rfl) ?_
  intro p e s m args below meth c A ls hx hb hml hr hlk hnm hC hLS hA hw hl
  have hC : cx D τ s m args RX9 := hC
  have hl : lv_has ls 1 [(0, .ref (ad 156))] := hl
  unfold qX9_look at hv
  refine lv_aload_n hx hb dX9_look_0 rfl (lv_at hl 0 rfl) ?_
  refine gf_X9_19 hx hb hC hw 156 (gX_156 τ ad M) rfl dX9_look_1 ?_
  refine r_top (fun x1 e1 => ?_)
  have g1 : iR x1 := by rw [e1]; exact hM.get (by decide) _
  have hv := hv x1 e1 g1
  refine lv_aload_n hx hb dX9_look_4 rfl (lv_at hl 0 rfl) ?_
  refine gf_X9_22 hx hb hC hw 156 (gX_156 τ ad M) rfl dX9_look_5 ?_
  refine r_top (fun x2 e2 => ?_)
  have g2 : iR x2 := by rw [e2]; exact hM.get (by decide) _
  have hv := hv x2 e2 g2
  refine r_icmp_ge (tgt := 23) hx hb dX9_look_8 (by decide) g1 g2 (fun b3 => ?_) (fun b3 => ?_)
  · have hv := hv.1 b3
    refine r_iconst hx hb dX9_look_23 ?_
    exact k_iret (wq_X τ ad) hx hb hr hlk hw hM (by decide) hv dX9_look_24
  · have hv := hv.2 b3
    refine lv_aload_n hx hb dX9_look_11 rfl (lv_at hl 0 rfl) ?_
    refine gf_X9_9 hx hb hC hw 156 (gX_156 τ ad M) rfl dX9_look_12 ?_
    refine lv_aload_n hx hb dX9_look_15 rfl (lv_at hl 0 rfl) ?_
    refine gf_X9_19 hx hb hC hw 156 (gX_156 τ ad M) rfl dX9_look_16 ?_
    refine r_top (fun x4 e4 => ?_)
    have g4 : iR x4 := by rw [e4]; exact hM.get (by decide) _
    have hv := hv x4 e4 g4
    obtain ⟨c5, hv⟩ := hv
    obtain ⟨c6, hv⟩ := hv
    refine r_iald hx hb hC hw 157 (gI_X aX_157 τ ad M) c5 c6 (by decide) dX9_look_19 ?_
    refine r_top (fun x7 e7 => ?_)
    have g7 : iR x7 := by rw [e7]; exact hM.get aX_157.pos _
    have hv := hv x7 e7 g7
    refine lv_goto (tgt := 24) hx hb dX9_look_20 (by decide) ?_
    exact k_iret (wq_X τ ad) hx hb hr hlk hw hM g7 hv dX9_look_24
set_option maxHeartbeats 4000000 in
set_option maxRecDepth 100000 in
theorem mX9_pass (l : Launch) (D : va_G) (τ : Nat → ClassId) (ad : Nat → Nat) (sA sV : Nat → Nat) (sz : Nat)   (M : Mem) (hM : MR M) (Q : Mem → Prop) (hv : qX9_pass  M Q) : Met l yX9_pass (lw_w yX9_pass cX9_pass 1 none) (rmk 1 0 0) (kPc D τ sA sV (WX τ ad M) sz [.ref (ad 156)]) (gQv D (EQv (WX τ ad) MR Q) (va_A (WX τ ad M) sz)) 0 0 (va_A (WX τ ad M) sz) := by
  refine k_met (ret := none) (Qc := gQv D (EQv (WX τ ad) MR Q)) (by decide +kernel) (Nat.le_of_ble_eq_true rfl) ?_
  intro p e s m args below meth c A ls hx hb hml hr hlk hnm hC hLS hA hw hl
  have hC : cx D τ s m args RX9 := hC
  have hl : lv_has ls 1 [(0, .ref (ad 156))] := hl
  unfold qX9_pass at hv
  refine lv_aload_n hx hb dX9_pass_0 rfl (lv_at hl 0 rfl) ?_
  refine gf_X9_19 hx hb hC hw 156 (gX_156 τ ad M) rfl dX9_pass_1 ?_
  refine r_top (fun x1 e1 => ?_)
  have g1 : iR x1 := by rw [e1]; exact hM.get (by decide) _
  have hv := hv x1 e1 g1
  refine lv_aload_n hx hb dX9_pass_4 rfl (lv_at hl 0 rfl) ?_
  refine gf_X9_22 hx hb hC hw 156 (gX_156 τ ad M) rfl dX9_pass_5 ?_
  refine r_top (fun x2 e2 => ?_)
  have g2 : iR x2 := by rw [e2]; exact hM.get (by decide) _
  have hv := hv x2 e2 g2
  refine r_icmp_ge (tgt := 21) hx hb dX9_pass_8 (by decide) g1 g2 (fun b3 => ?_) (fun b3 => ?_)
  · have hv := hv.1 b3
    exact k_vret (wq_X τ ad) hx hb hr hlk hw hM hv dX9_pass_21
  · have hv := hv.2 b3
    refine lv_aload_n hx hb dX9_pass_11 rfl (lv_at hl 0 rfl) ?_
    refine lv_dup hx hb dX9_pass_12 rfl ?_
    refine gf_X9_19 hx hb hC hw 156 (gX_156 τ ad M) rfl dX9_pass_13 ?_
    refine r_top (fun x4 e4 => ?_)
    have g4 : iR x4 := by rw [e4]; exact hM.get (by decide) _
    have hv := hv x4 e4 g4
    refine r_iconst hx hb dX9_pass_16 ?_
    refine r_iadd (z := (x4 + 1)) hx hb dX9_pass_17 rfl ?_
    obtain ⟨c5, hv⟩ := hv
    obtain ⟨M6, e6⟩ : ∃ M6 : Mem, M6 = up2 M 156 2 (x4 + 1) := ⟨_, rfl⟩
    have hv := hv M6 e6
    refine pf_X9_19 (ws' := (WX τ ad M6)) hx hb hC hw 156 (gX_156 τ ad M) (Nat.le_of_ble_eq_true rfl) (by rw [e6]; exact sX_156_2 τ ad M _) dX9_pass_18 (fun H locs hw => ?_)
    have hM : MR M6 := by rw [e6]; exact hM.put (by decide) c5
    exact k_vret (wq_X τ ad) hx hb hr hlk hw hM hv dX9_pass_21
set_option maxHeartbeats 4000000 in
set_option maxRecDepth 100000 in
theorem mX9_digit (l : Launch) (D : va_G) (τ : Nat → ClassId) (ad : Nat → Nat) (sA sV : Nat → Nat) (sz : Nat)   (M : Mem) (hM : MR M) (Q : Int → Mem → Prop) (hv : qX9_digit  M Q) : Met l yX9_digit (lw_w yX9_digit cX9_digit 2 (some .int)) (rmk 2 0 0) (kPc D τ sA sV (WX τ ad M) sz [.ref (ad 156)]) (gQi D (EQi (WX τ ad) MR Q) (va_A (WX τ ad M) sz)) 0 0 (va_A (WX τ ad M) sz) := by
  refine k_met (ret := (some .int)) (Qc := gQi D (EQi (WX τ ad) MR Q)) (by decide +kernel) (Nat.le_of_ble_eq_true rfl) ?_
  intro p e s m args below meth c A ls hx hb hml hr hlk hnm hC hLS hA hw hl
  have hC : cx D τ s m args RX9 := hC
  have hl : lv_has ls 2 [(0, .ref (ad 156))] := hl
  unfold qX9_digit at hv
  refine lv_aload_n hx hb dX9_digit_0 rfl (lv_at hl 0 rfl) ?_
  refine k_cVi (wq_X τ ad) hx hb hml hC hLS hA hw hl.1 (mX9_look l D τ ad sA sV _   M hM _ hv) kX9_look ml_X9_31 rfl (gX_156 τ ad M) rfl rfl (Nat.le_of_ble_eq_true rfl) (rm_ok (by decide) (by decide)) ⟨Nat.zero_le _, Nat.zero_le _⟩ dX9_digit_1 (fun x1 M1 H locs g1 hM hv hw => ?_)
  have hv := hv g1
  refine lv_istore_n (lv' := [(1, .int (iI x1)), (0, .ref (ad 156))]) hx hb dX9_digit_4 rfl hl (by decide) rfl (fun ls hl => ?_)
  refine lv_iload_n hx hb dX9_digit_5 rfl (lv_at hl 0 rfl) ?_
  refine r_bipush hx hb dX9_digit_6 (by decide +kernel) ?_
  refine r_icmp_lt (tgt := 17) hx hb dX9_digit_8 (by decide) g1 (by decide) (fun b2 => ?_) (fun b2 => ?_)
  · have hv := hv.1 b2
    refine r_iconst hx hb dX9_digit_17 ?_
    exact k_iret (wq_X τ ad) hx hb hr hlk hw hM (by decide) hv dX9_digit_18
  · have hv := hv.2 b2
    refine lv_iload_n hx hb dX9_digit_11 rfl (lv_at hl 0 rfl) ?_
    refine r_bipush hx hb dX9_digit_12 (by decide +kernel) ?_
    refine r_icmp_le (tgt := 19) hx hb dX9_digit_14 (by decide) g1 (by decide) (fun b3 => ?_) (fun b3 => ?_)
    · have hv := hv.1 b3
      refine lv_aload_n hx hb dX9_digit_19 rfl (lv_at hl 1 rfl) ?_
      refine k_cVv (wq_X τ ad) hx hb hml hC hLS hA hw hl.1 (mX9_pass l D τ ad sA sV _   M1 hM _ hv) kX9_pass ml_X9_35 rfl (gX_156 τ ad M1) rfl rfl (Nat.le_of_ble_eq_true rfl) (rm_ok (by decide) (by decide)) ⟨Nat.zero_le _, Nat.zero_le _⟩ dX9_digit_20 (fun M4 H locs hM hv hw => ?_)
      refine lv_iload_n hx hb dX9_digit_23 rfl (lv_at hl 0 rfl) ?_
      refine r_bipush hx hb dX9_digit_24 (by decide +kernel) ?_
      refine r_isub (z := (x1 - 48)) hx hb dX9_digit_26 rfl ?_
      obtain ⟨c5, hv⟩ := hv
      exact k_iret (wq_X τ ad) hx hb hr hlk hw hM c5 hv dX9_digit_27
    · have hv := hv.2 b3
      refine r_iconst hx hb dX9_digit_17 ?_
      exact k_iret (wq_X τ ad) hx hb hr hlk hw hM (by decide) hv dX9_digit_18
set_option maxHeartbeats 4000000 in
set_option maxRecDepth 100000 in
theorem mX9_number (l : Launch) (D : va_G) (τ : Nat → ClassId) (ad : Nat → Nat) (sA sV : Nat → Nat) (sz : Nat) (p1 : Int) (hp1 : iR p1) (M : Mem) (hM : MR M) (Q : Int → Mem → Prop) (hv : qX9_number p1 M Q) : Met l yX9_number (lw_w yX9_number cX9_number 5 (some .int)) (rmk 3 0 0) (kPc D τ sA sV (WX τ ad M) sz [.ref (ad 156), .int (iI p1)]) (gQi D (EQi (WX τ ad) MR Q) (va_A (WX τ ad M) sz)) 0 0 (va_A (WX τ ad M) sz) := by
  refine k_met (ret := (some .int)) (Qc := gQi D (EQi (WX τ ad) MR Q)) (by decide +kernel) (Nat.le_of_ble_eq_true rfl) ?_
  intro p e s m args below meth c A ls hx hb hml hr hlk hnm hC hLS hA hw hl
  have hC : cx D τ s m args RX9 := hC
  have hl : lv_has ls 5 [(0, .ref (ad 156)), (1, .int (iI p1))] := hl
  unfold qX9_number at hv
  have L10 : ∀ (n : Nat) (v2 : Int) (v3 : Int) (v4 : Int) (M : Mem) (H : Heap) (locs : List Loc) (ls : Array Slot), MR M → qX9_number_L10 p1  Q n v2 v3 v4 M → wS D A s.heap (WX τ ad M) H locs → lv_has ls 5 [(0, .ref (ad 156)), (1, .int (iI p1)), (2, .int (iI v2)), (3, .int (iI v3)), (4, .int (iI v4))] → W p l e (rmk 3 0 0) s m args below meth c H locs 0 0 (MQ below (gQi D (EQi (WX τ ad) MR Q) A) args s 0 0 A) (F0 m 10 ls []) := by
    intro n
    induction n with
    | zero => intro v2 v3 v4 M H locs ls hM hv; rw [qX9_number_L10] at hv; exact hv.elim
    | succ n ih =>
      intro v2 v3 v4 M H locs ls hM hv hw hl
      rw [qX9_number_L10] at hv
      refine lv_iload hx hb dX9_number_10 (lv_at hl 4 rfl) ?_
      refine lv_iload_n hx hb dX9_number_12 rfl (lv_at hl 1 rfl) ?_
      obtain ⟨c2, hv⟩ := hv
      refine r_icmp_ge (tgt := 48) hx hb dX9_number_13 (by decide) c2 hp1 (fun b3 => ?_) (fun b3 => ?_)
      · have hv := hv.1 b3
        refine lv_iload_n hx hb dX9_number_48 rfl (lv_at hl 2 rfl) ?_
        obtain ⟨c4, hv⟩ := hv
        exact k_iret (wq_X τ ad) hx hb hr hlk hw hM c4 hv dX9_number_49
      · have hv := hv.2 b3
        refine lv_iload_n hx hb dX9_number_16 rfl (lv_at hl 3 rfl) ?_
        refine r_iconst hx hb dX9_number_17 ?_
        obtain ⟨c5, hv⟩ := hv
        refine r_icmp_eq (tgt := 48) hx hb dX9_number_18 (by decide) c5 (by decide) (fun b6 => ?_) (fun b6 => ?_)
        · have hv := hv.1 b6
          refine lv_iload_n hx hb dX9_number_48 rfl (lv_at hl 2 rfl) ?_
          obtain ⟨c7, hv⟩ := hv
          exact k_iret (wq_X τ ad) hx hb hr hlk hw hM c7 hv dX9_number_49
        · have hv := hv.2 b6
          refine lv_aload_n hx hb dX9_number_21 rfl (lv_at hl 0 rfl) ?_
          refine k_cVi (wq_X τ ad) hx hb hml hC hLS hA hw hl.1 (mX9_digit l D τ ad sA sV _   M hM _ hv) kX9_digit ml_X9_38 rfl (gX_156 τ ad M) rfl rfl (Nat.le_of_ble_eq_true rfl) (rm_ok (by decide) (by decide)) ⟨Nat.zero_le _, Nat.zero_le _⟩ dX9_number_22 (fun x8 M8 H locs g8 hM hv hw => ?_)
          have hv := hv g8
          refine lv_istore_n (lv' := [(3, .int (iI x8)), (0, .ref (ad 156)), (1, .int (iI p1)), (2, .int (iI v2)), (4, .int (iI v4))]) hx hb dX9_number_25 rfl hl (by decide) rfl (fun ls hl => ?_)
          refine lv_iload_n hx hb dX9_number_26 rfl (lv_at hl 0 rfl) ?_
          refine r_iconst hx hb dX9_number_27 ?_
          refine r_icmp_ne (tgt := 35) hx hb dX9_number_28 (by decide) g8 (by decide) (fun b9 => ?_) (fun b9 => ?_)
          · have hv := hv.1 b9
            refine lv_iload_n hx hb dX9_number_35 rfl (lv_at hl 3 rfl) ?_
            refine r_bipush hx hb dX9_number_36 (by decide +kernel) ?_
            refine r_imul (z := (v2 * 10)) hx hb dX9_number_38 rfl ?_
            refine lv_iload_n hx hb dX9_number_39 rfl (lv_at hl 0 rfl) ?_
            refine r_iadd (z := ((v2 * 10) + x8)) hx hb dX9_number_40 rfl ?_
            refine lv_istore_n (lv' := [(2, .int (iI ((v2 * 10) + x8))), (3, .int (iI x8)), (0, .ref (ad 156)), (1, .int (iI p1)), (4, .int (iI v4))]) hx hb dX9_number_41 rfl hl (by decide) rfl (fun ls hl => ?_)
            refine r_iinc (v := (v4 + 1)) (lv' := [(4, .int (iI (v4 + 1))), (2, .int (iI ((v2 * 10) + x8))), (3, .int (iI x8)), (0, .ref (ad 156)), (1, .int (iI p1))]) hx hb dX9_number_42 hl (k := 4) rfl rfl (by decide) rfl (fun ls hl => ?_)
            refine lv_goto (tgt := 10) hx hb dX9_number_45 (by decide) ?_
            exact ih ((v2 * 10) + x8) x8 (v4 + 1) M8 _ _ _ hM hv hw (lv_sub hl [3, 4, 1, 2, 0] rfl)
          · have hv := hv.2 b9
            refine lv_iload_n hx hb dX9_number_31 rfl (lv_at hl 3 rfl) ?_
            refine lv_goto (tgt := 41) hx hb dX9_number_32 (by decide) ?_
            refine lv_istore_n (lv' := [(2, .int (iI v2)), (3, .int (iI x8)), (0, .ref (ad 156)), (1, .int (iI p1)), (4, .int (iI v4))]) hx hb dX9_number_41 rfl hl (by decide) rfl (fun ls hl => ?_)
            refine r_iinc (v := (v4 + 1)) (lv' := [(4, .int (iI (v4 + 1))), (2, .int (iI v2)), (3, .int (iI x8)), (0, .ref (ad 156)), (1, .int (iI p1))]) hx hb dX9_number_42 hl (k := 4) rfl rfl (by decide) rfl (fun ls hl => ?_)
            refine lv_goto (tgt := 10) hx hb dX9_number_45 (by decide) ?_
            exact ih v2 x8 (v4 + 1) M8 _ _ _ hM hv hw (lv_sub hl [3, 4, 1, 2, 0] rfl)
  refine lv_aload_n hx hb dX9_number_0 rfl (lv_at hl 0 rfl) ?_
  refine k_cVi (wq_X τ ad) hx hb hml hC hLS hA hw hl.1 (mX9_digit l D τ ad sA sV _   M hM _ hv) kX9_digit ml_X9_38 rfl (gX_156 τ ad M) rfl rfl (Nat.le_of_ble_eq_true rfl) (rm_ok (by decide) (by decide)) ⟨Nat.zero_le _, Nat.zero_le _⟩ dX9_number_1 (fun x1 M1 H locs g1 hM hv hw => ?_)
  have hv := hv g1
  refine lv_istore_n (lv' := [(2, .int (iI x1)), (0, .ref (ad 156)), (1, .int (iI p1))]) hx hb dX9_number_4 rfl hl (by decide) rfl (fun ls hl => ?_)
  refine lv_iload_n hx hb dX9_number_5 rfl (lv_at hl 0 rfl) ?_
  refine lv_istore_n (lv' := [(3, .int (iI x1)), (2, .int (iI x1)), (0, .ref (ad 156)), (1, .int (iI p1))]) hx hb dX9_number_6 rfl hl (by decide) rfl (fun ls hl => ?_)
  refine r_iconst hx hb dX9_number_7 ?_
  refine lv_istore (lv' := [(4, .int (iI 1)), (3, .int (iI x1)), (2, .int (iI x1)), (0, .ref (ad 156)), (1, .int (iI p1))]) hx hb dX9_number_8 hl (by decide) rfl (fun ls hl => ?_)
  obtain ⟨n10, hv⟩ := hv
  refine L10  n10 x1 x1 1 M1 _ _ _ hM hv hw (lv_sub hl [3, 4, 2, 1, 0] rfl)
set_option maxHeartbeats 4000000 in
set_option maxRecDepth 100000 in
theorem mX11_readCell (l : Launch) (D : va_G) (τ : Nat → ClassId) (ad : Nat → Nat) (sA sV : Nat → Nat) (sz : Nat)   (M : Mem) (hM : MR M) (Q : Int → Mem → Prop) (hv : qX11_readCell  M Q) : Met l yX11_readCell (lw_w yX11_readCell cX11_readCell 2 (some .int)) (rmk 4 0 0) (kPc D τ sA sV (WX τ ad M) sz [.ref (ad 155)]) (gQi D (EQi (WX τ ad) MR Q) (va_A (WX τ ad M) sz)) 0 0 (va_A (WX τ ad M) sz) := by
  refine k_met (ret := (some .int)) (Qc := gQi D (EQi (WX τ ad) MR Q)) (by decide +kernel) (Nat.le_of_ble_eq_true rfl) ?_
  intro p e s m args below meth c A ls hx hb hml hr hlk hnm hC hLS hA hw hl
  have hC : cx D τ s m args RX11 := hC
  have hl : lv_has ls 2 [(0, .ref (ad 155))] := hl
  unfold qX11_readCell at hv
  refine lv_aload_n hx hb dX11_readCell_0 rfl (lv_at hl 0 rfl) ?_
  refine gf_X11_10 hx hb hC hw 155 (gX_155 τ ad M) rfl dX11_readCell_1 ?_
  refine r_iconst hx hb dX11_readCell_4 ?_
  refine k_cVi (wq_X τ ad) hx hb hml hC hLS hA hw hl.1 (mX9_number l D τ ad sA sV _ 2 (by decide) M hM _ hv) kX9_number ml_X11_204 rfl (gX_156 τ ad M) rfl rfl (Nat.le_of_ble_eq_true rfl) (rm_ok (by decide) (by decide)) ⟨Nat.zero_le _, Nat.zero_le _⟩ dX11_readCell_5 (fun x1 M1 H locs g1 hM hv hw => ?_)
  have hv := hv g1
  refine lv_istore_n (lv' := [(1, .int (iI x1)), (0, .ref (ad 155))]) hx hb dX11_readCell_8 rfl hl (by decide) rfl (fun ls hl => ?_)
  refine lv_iload_n hx hb dX11_readCell_9 rfl (lv_at hl 0 rfl) ?_
  refine lv_aload_n hx hb dX11_readCell_10 rfl (lv_at hl 1 rfl) ?_
  refine gf_X11_19 hx hb hC hw 155 (gX_155 τ ad M1) rfl dX11_readCell_11 ?_
  refine k_cVi (wq_X τ ad) hx hb hml hC hLS hA hw hl.1 (mX8_gate l D τ ad sA sV _   M1 hM _ hv) kX8_gate ml_X11_207 rfl (gX_158 τ ad M1) rfl rfl (Nat.le_of_ble_eq_true rfl) (rm_ok (by decide) (by decide)) ⟨Nat.zero_le _, Nat.zero_le _⟩ dX11_readCell_14 (fun x2 M2 H locs g2 hM hv hw => ?_)
  have hv := hv g2
  refine r_icmp_lt (tgt := 29) hx hb dX11_readCell_17 (by decide) g1 g2 (fun b3 => ?_) (fun b3 => ?_)
  · have hv := hv.1 b3
    refine lv_iload_n hx hb dX11_readCell_29 rfl (lv_at hl 0 rfl) ?_
    exact k_iret (wq_X τ ad) hx hb hr hlk hw hM g1 hv dX11_readCell_30
  · have hv := hv.2 b3
    refine lv_aload_n hx hb dX11_readCell_20 rfl (lv_at hl 1 rfl) ?_
    refine gf_X11_10 hx hb hC hw 155 (gX_155 τ ad M2) rfl dX11_readCell_21 ?_
    refine k_cVv (wq_X τ ad) hx hb hml hC hLS hA hw hl.1 (mX9_back l D τ ad sA sV _   M2 hM _ hv) kX9_back ml_X11_185 rfl (gX_156 τ ad M2) rfl rfl (Nat.le_of_ble_eq_true rfl) (rm_ok (by decide) (by decide)) ⟨Nat.zero_le _, Nat.zero_le _⟩ dX11_readCell_24 (fun M4 H locs hM hv hw => ?_)
    refine r_iconst hx hb dX11_readCell_27 ?_
    exact k_iret (wq_X τ ad) hx hb hr hlk hw hM (by decide) hv dX11_readCell_28
set_option maxHeartbeats 4000000 in
set_option maxRecDepth 100000 in
theorem mX6_addHearse (l : Launch) (D : va_G) (τ : Nat → ClassId) (ad : Nat → Nat) (sA sV : Nat → Nat) (sz : Nat) (k0 : Nat) (p1 : Int) (hk0 : isS k0) (hp1 : iR p1) (M : Mem) (hM : MR M) (Q : Mem → Prop) (hv : qX6_addHearse k0 p1 M Q) : Met l yX6_addHearse (lw_w yX6_addHearse cX6_addHearse 2 none) (rmk 1 0 0) (kPc D τ sA sV (WX τ ad M) sz [.ref (ad k0), .int (iI p1)]) (gQv D (EQv (WX τ ad) MR Q) (va_A (WX τ ad M) sz)) 0 0 (va_A (WX τ ad M) sz) := by
  refine k_met (ret := none) (Qc := gQv D (EQv (WX τ ad) MR Q)) (by decide +kernel) (Nat.le_of_ble_eq_true rfl) ?_
  intro p e s m args below meth c A ls hx hb hml hr hlk hnm hC hLS hA hw hl
  have hC : cx D τ s m args RX6 := hC
  have hl : lv_has ls 2 [(0, .ref (ad k0)), (1, .int (iI p1))] := hl
  unfold qX6_addHearse at hv
  refine lv_aload_n hx hb dX6_addHearse_0 rfl (lv_at hl 0 rfl) ?_
  refine gf_X6_9 hx hb hC hw k0 (gS_X hk0 τ ad M) rfl dX6_addHearse_1 ?_
  refine lv_aload_n hx hb dX6_addHearse_4 rfl (lv_at hl 0 rfl) ?_
  refine gf_X6_30 hx hb hC hw k0 (gS_X hk0 τ ad M) rfl dX6_addHearse_5 ?_
  refine r_top (fun x1 e1 => ?_)
  have g1 : iR x1 := by rw [e1]; exact hM.get hk0.pos _
  have hv := hv x1 e1 g1
  refine lv_iload_n hx hb dX6_addHearse_8 rfl (lv_at hl 1 rfl) ?_
  obtain ⟨c2, hv⟩ := hv
  obtain ⟨c3, hv⟩ := hv
  obtain ⟨M4, e4⟩ : ∃ M4 : Mem, M4 = up2 M (k0 + 1) x1 p1 := ⟨_, rfl⟩
  have hv := hv M4 e4
  refine r_iast (ws' := (WX τ ad M4)) hx hb hC hw (k0 + 1) (gI_X (isS_f0 hk0) τ ad M) c2 c3 (by decide) (by rw [e4]; exact sI_X (isS_f0 hk0) τ ad M _ _) dX6_addHearse_9 (fun H locs hw => ?_)
  have hM : MR M4 := by rw [e4]; exact hM.put (isS_f0 hk0).pos hp1
  refine lv_aload_n hx hb dX6_addHearse_10 rfl (lv_at hl 0 rfl) ?_
  refine gf_X6_15 hx hb hC hw k0 (gS_X hk0 τ ad M4) rfl dX6_addHearse_11 ?_
  refine lv_aload_n hx hb dX6_addHearse_14 rfl (lv_at hl 0 rfl) ?_
  refine gf_X6_30 hx hb hC hw k0 (gS_X hk0 τ ad M4) rfl dX6_addHearse_15 ?_
  refine r_top (fun x5 e5 => ?_)
  have g5 : iR x5 := by rw [e5]; exact hM.get hk0.pos _
  have hv := hv x5 e5 g5
  refine r_iconst hx hb dX6_addHearse_18 ?_
  obtain ⟨c6, hv⟩ := hv
  obtain ⟨c7, hv⟩ := hv
  obtain ⟨M8, e8⟩ : ∃ M8 : Mem, M8 = up2 M4 (k0 + 2) x5 0 := ⟨_, rfl⟩
  have hv := hv M8 e8
  refine r_iast (ws' := (WX τ ad M8)) hx hb hC hw (k0 + 2) (gI_X (isS_f1 hk0) τ ad M4) c6 c7 (by decide) (by rw [e8]; exact sI_X (isS_f1 hk0) τ ad M4 _ _) dX6_addHearse_19 (fun H locs hw => ?_)
  have hM : MR M8 := by rw [e8]; exact hM.put (isS_f1 hk0).pos (by decide)
  refine lv_aload_n hx hb dX6_addHearse_20 rfl (lv_at hl 0 rfl) ?_
  refine lv_dup hx hb dX6_addHearse_21 rfl ?_
  refine gf_X6_30 hx hb hC hw k0 (gS_X hk0 τ ad M8) rfl dX6_addHearse_22 ?_
  refine r_top (fun x9 e9 => ?_)
  have g9 : iR x9 := by rw [e9]; exact hM.get hk0.pos _
  have hv := hv x9 e9 g9
  refine r_iconst hx hb dX6_addHearse_25 ?_
  refine r_iadd (z := (x9 + 1)) hx hb dX6_addHearse_26 rfl ?_
  obtain ⟨c10, hv⟩ := hv
  obtain ⟨M11, e11⟩ : ∃ M11 : Mem, M11 = up2 M8 k0 6 (x9 + 1) := ⟨_, rfl⟩
  have hv := hv M11 e11
  refine pf_X6_30 (ws' := (WX τ ad M11)) hx hb hC hw k0 (gS_X hk0 τ ad M8) (Nat.le_of_ble_eq_true rfl) (by rw [e11]; exact sS_6 hk0 τ ad M8 _) dX6_addHearse_27 (fun H locs hw => ?_)
  have hM : MR M11 := by rw [e11]; exact hM.put hk0.pos c10
  exact k_vret (wq_X τ ad) hx hb hr hlk hw hM hv dX6_addHearse_30
set_option maxHeartbeats 4000000 in
set_option maxRecDepth 100000 in
theorem mX6_hearseOn (l : Launch) (D : va_G) (τ : Nat → ClassId) (ad : Nat → Nat) (sA sV : Nat → Nat) (sz : Nat) (k0 : Nat) (p1 : Int) (hk0 : isS k0) (hp1 : iR p1) (M : Mem) (hM : MR M) (Q : Int → Mem → Prop) (hv : qX6_hearseOn k0 p1 M Q) : Met l yX6_hearseOn (lw_w yX6_hearseOn cX6_hearseOn 3 (some .int)) (rmk 1 0 0) (kPc D τ sA sV (WX τ ad M) sz [.ref (ad k0), .int (iI p1)]) (gQi D (EQi (WX τ ad) MR Q) (va_A (WX τ ad M) sz)) 0 0 (va_A (WX τ ad M) sz) := by
  refine k_met (ret := (some .int)) (Qc := gQi D (EQi (WX τ ad) MR Q)) (by decide +kernel) (Nat.le_of_ble_eq_true rfl) ?_
  intro p e s m args below meth c A ls hx hb hml hr hlk hnm hC hLS hA hw hl
  have hC : cx D τ s m args RX6 := hC
  have hl : lv_has ls 3 [(0, .ref (ad k0)), (1, .int (iI p1))] := hl
  unfold qX6_hearseOn at hv
  have L2 : ∀ (n : Nat) (v2 : Int) (M : Mem) (H : Heap) (locs : List Loc) (ls : Array Slot), MR M → qX6_hearseOn_L2 k0 p1  Q n v2 M → wS D A s.heap (WX τ ad M) H locs → lv_has ls 3 [(0, .ref (ad k0)), (1, .int (iI p1)), (2, .int (iI v2))] → W p l e (rmk 1 0 0) s m args below meth c H locs 0 0 (MQ below (gQi D (EQi (WX τ ad) MR Q) A) args s 0 0 A) (F0 m 2 ls []) := by
    intro n
    induction n with
    | zero => intro v2 M H locs ls hM hv; rw [qX6_hearseOn_L2] at hv; exact hv.elim
    | succ n ih =>
      intro v2 M H locs ls hM hv hw hl
      rw [qX6_hearseOn_L2] at hv
      refine lv_iload_n hx hb dX6_hearseOn_2 rfl (lv_at hl 2 rfl) ?_
      refine lv_aload_n hx hb dX6_hearseOn_3 rfl (lv_at hl 0 rfl) ?_
      refine gf_X6_30 hx hb hC hw k0 (gS_X hk0 τ ad M) rfl dX6_hearseOn_4 ?_
      refine r_top (fun x1 e1 => ?_)
      have g1 : iR x1 := by rw [e1]; exact hM.get hk0.pos _
      have hv := hv x1 e1 g1
      obtain ⟨c2, hv⟩ := hv
      refine r_icmp_ge (tgt := 28) hx hb dX6_hearseOn_7 (by decide) c2 g1 (fun b3 => ?_) (fun b3 => ?_)
      · have hv := hv.1 b3
        refine r_iconst hx hb dX6_hearseOn_28 ?_
        exact k_iret (wq_X τ ad) hx hb hr hlk hw hM (by decide) hv dX6_hearseOn_29
      · have hv := hv.2 b3
        refine lv_aload_n hx hb dX6_hearseOn_10 rfl (lv_at hl 0 rfl) ?_
        refine gf_X6_9 hx hb hC hw k0 (gS_X hk0 τ ad M) rfl dX6_hearseOn_11 ?_
        refine lv_iload_n hx hb dX6_hearseOn_14 rfl (lv_at hl 2 rfl) ?_
        obtain ⟨c4, hv⟩ := hv
        obtain ⟨c5, hv⟩ := hv
        refine r_iald hx hb hC hw (k0 + 1) (gI_X (isS_f0 hk0) τ ad M) c4 c5 (by decide) dX6_hearseOn_15 ?_
        refine r_top (fun x6 e6 => ?_)
        have g6 : iR x6 := by rw [e6]; exact hM.get (isS_f0 hk0).pos _
        have hv := hv x6 e6 g6
        refine lv_iload_n hx hb dX6_hearseOn_16 rfl (lv_at hl 1 rfl) ?_
        refine r_icmp_ne (tgt := 22) hx hb dX6_hearseOn_17 (by decide) g6 hp1 (fun b7 => ?_) (fun b7 => ?_)
        · have hv := hv.1 b7
          refine r_iinc (v := (v2 + 1)) (lv' := [(2, .int (iI (v2 + 1))), (0, .ref (ad k0)), (1, .int (iI p1))]) hx hb dX6_hearseOn_22 hl (k := 2) rfl rfl (by decide) rfl (fun ls hl => ?_)
          refine lv_goto (tgt := 2) hx hb dX6_hearseOn_25 (by decide) ?_
          exact ih (v2 + 1) M _ _ _ hM hv hw (lv_sub hl [1, 2, 0] rfl)
        · have hv := hv.2 b7
          refine lv_iload_n hx hb dX6_hearseOn_20 rfl (lv_at hl 2 rfl) ?_
          exact k_iret (wq_X τ ad) hx hb hr hlk hw hM c2 hv dX6_hearseOn_21
  refine r_iconst hx hb dX6_hearseOn_0 ?_
  refine lv_istore_n (lv' := [(2, .int (iI 0)), (0, .ref (ad k0)), (1, .int (iI p1))]) hx hb dX6_hearseOn_1 rfl hl (by decide) rfl (fun ls hl => ?_)
  obtain ⟨n8, hv⟩ := hv
  refine L2  n8 0 M _ _ _ hM hv hw (lv_sub hl [1, 2, 0] rfl)
set_option maxHeartbeats 4000000 in
set_option maxRecDepth 100000 in
theorem mX11_readHearse (l : Launch) (D : va_G) (τ : Nat → ClassId) (ad : Nat → Nat) (sA sV : Nat → Nat) (sz : Nat)   (M : Mem) (hM : MR M) (Q : Int → Mem → Prop) (hv : qX11_readHearse  M Q) : Met l yX11_readHearse (lw_w yX11_readHearse cX11_readHearse 2 (some .boolean)) (rmk 5 0 0) (kPc D τ sA sV (WX τ ad M) sz [.ref (ad 155)]) (gQi D (EQz (WX τ ad) MR Q) (va_A (WX τ ad M) sz)) 0 0 (va_A (WX τ ad M) sz) := by
  refine k_met (ret := (some .boolean)) (Qc := gQi D (EQz (WX τ ad) MR Q)) (by decide +kernel) (Nat.le_of_ble_eq_true rfl) ?_
  intro p e s m args below meth c A ls hx hb hml hr hlk hnm hC hLS hA hw hl
  have hC : cx D τ s m args RX11 := hC
  have hl : lv_has ls 2 [(0, .ref (ad 155))] := hl
  unfold qX11_readHearse at hv
  refine lv_aload_n hx hb dX11_readHearse_0 rfl (lv_at hl 0 rfl) ?_
  refine gf_X11_30 hx hb hC hw 155 (gX_155 τ ad M) rfl dX11_readHearse_1 ?_
  refine gf_X11_176 hx hb hC hw 8 (gS_X (by decide) τ ad M) rfl dX11_readHearse_4 ?_
  refine r_top (fun x1 e1 => ?_)
  have g1 : iR x1 := by rw [e1]; exact hM.get (by decide) _
  have hv := hv x1 e1 g1
  refine r_bipush hx hb dX11_readHearse_7 (by decide +kernel) ?_
  refine r_icmp_lt (tgt := 14) hx hb dX11_readHearse_9 (by decide) g1 (by decide) (fun b2 => ?_) (fun b2 => ?_)
  · have hv := hv.1 b2
    refine lv_aload_n hx hb dX11_readHearse_14 rfl (lv_at hl 0 rfl) ?_
    refine k_cVi (wq_X τ ad) hx hb hml hC hLS hA hw hl.1 (mX11_readCell l D τ ad sA sV _   M hM _ hv) kX11_readCell ml_X11_179 rfl (gX_155 τ ad M) rfl rfl (Nat.le_of_ble_eq_true rfl) (rm_ok (by decide) (by decide)) ⟨Nat.zero_le _, Nat.zero_le _⟩ dX11_readHearse_15 (fun x3 M3 H locs g3 hM hv hw => ?_)
    have hv := hv g3
    refine lv_istore_n (lv' := [(1, .int (iI x3)), (0, .ref (ad 155))]) hx hb dX11_readHearse_18 rfl hl (by decide) rfl (fun ls hl => ?_)
    refine lv_iload_n hx hb dX11_readHearse_19 rfl (lv_at hl 0 rfl) ?_
    refine r_iconst hx hb dX11_readHearse_20 ?_
    refine r_icmp_ne (tgt := 26) hx hb dX11_readHearse_21 (by decide) g3 (by decide) (fun b4 => ?_) (fun b4 => ?_)
    · have hv := hv.1 b4
      refine lv_aload_n hx hb dX11_readHearse_26 rfl (lv_at hl 1 rfl) ?_
      refine gf_X11_30 hx hb hC hw 155 (gX_155 τ ad M3) rfl dX11_readHearse_27 ?_
      refine lv_iload_n hx hb dX11_readHearse_30 rfl (lv_at hl 0 rfl) ?_
      refine k_cVi (wq_X τ ad) hx hb hml hC hLS hA hw hl.1 (mX6_hearseOn l D τ ad sA sV _ 8 x3 (by decide) g3 M3 hM _ hv) kX6_hearseOn ml_X11_182 rfl (gS_X (by decide) τ ad M3) rfl rfl (Nat.le_of_ble_eq_true rfl) (rm_ok (by decide) (by decide)) ⟨Nat.zero_le _, Nat.zero_le _⟩ dX11_readHearse_31 (fun x5 M5 H locs g5 hM hv hw => ?_)
      have hv := hv g5
      refine r_iconst hx hb dX11_readHearse_34 ?_
      refine r_icmp_eq (tgt := 47) hx hb dX11_readHearse_35 (by decide) g5 (by decide) (fun b6 => ?_) (fun b6 => ?_)
      · have hv := hv.1 b6
        refine lv_aload_n hx hb dX11_readHearse_47 rfl (lv_at hl 1 rfl) ?_
        refine gf_X11_30 hx hb hC hw 155 (gX_155 τ ad M5) rfl dX11_readHearse_48 ?_
        refine lv_iload_n hx hb dX11_readHearse_51 rfl (lv_at hl 0 rfl) ?_
        refine k_cVv (wq_X τ ad) hx hb hml hC hLS hA hw hl.1 (mX6_addHearse l D τ ad sA sV _ 8 x3 (by decide) g3 M5 hM _ hv) kX6_addHearse ml_X11_188 rfl (gS_X (by decide) τ ad M5) rfl rfl (Nat.le_of_ble_eq_true rfl) (rm_ok (by decide) (by decide)) ⟨Nat.zero_le _, Nat.zero_le _⟩ dX11_readHearse_52 (fun M7 H locs hM hv hw => ?_)
        refine r_iconst hx hb dX11_readHearse_55 ?_
        exact k_zret (wq_X τ ad) hx hb hr hlk hw hM (by decide) (by decide) hv dX11_readHearse_56
      · have hv := hv.2 b6
        refine lv_aload_n hx hb dX11_readHearse_38 rfl (lv_at hl 1 rfl) ?_
        refine gf_X11_10 hx hb hC hw 155 (gX_155 τ ad M5) rfl dX11_readHearse_39 ?_
        refine k_cVv (wq_X τ ad) hx hb hml hC hLS hA hw hl.1 (mX9_back l D τ ad sA sV _   M5 hM _ hv) kX9_back ml_X11_185 rfl (gX_156 τ ad M5) rfl rfl (Nat.le_of_ble_eq_true rfl) (rm_ok (by decide) (by decide)) ⟨Nat.zero_le _, Nat.zero_le _⟩ dX11_readHearse_42 (fun M8 H locs hM hv hw => ?_)
        refine r_iconst hx hb dX11_readHearse_45 ?_
        exact k_zret (wq_X τ ad) hx hb hr hlk hw hM (by decide) (by decide) hv dX11_readHearse_46
    · have hv := hv.2 b4
      refine r_iconst hx hb dX11_readHearse_24 ?_
      exact k_zret (wq_X τ ad) hx hb hr hlk hw hM (by decide) (by decide) hv dX11_readHearse_25
  · have hv := hv.2 b2
    refine r_iconst hx hb dX11_readHearse_12 ?_
    exact k_zret (wq_X τ ad) hx hb hr hlk hw hM (by decide) (by decide) hv dX11_readHearse_13
set_option maxHeartbeats 4000000 in
set_option maxRecDepth 100000 in
theorem mX6_addMourner (l : Launch) (D : va_G) (τ : Nat → ClassId) (ad : Nat → Nat) (sA sV : Nat → Nat) (sz : Nat) (k0 : Nat) (p1 : Int) (p2 : Int) (hk0 : isS k0) (hp1 : iR p1) (hp2 : iR p2) (M : Mem) (hM : MR M) (Q : Mem → Prop) (hv : qX6_addMourner k0 p1 p2 M Q) : Met l yX6_addMourner (lw_w yX6_addMourner cX6_addMourner 3 none) (rmk 1 0 0) (kPc D τ sA sV (WX τ ad M) sz [.ref (ad k0), .int (iI p1), .int (iI p2)]) (gQv D (EQv (WX τ ad) MR Q) (va_A (WX τ ad M) sz)) 0 0 (va_A (WX τ ad M) sz) := by
  refine k_met (ret := none) (Qc := gQv D (EQv (WX τ ad) MR Q)) (by decide +kernel) (Nat.le_of_ble_eq_true rfl) ?_
  intro p e s m args below meth c A ls hx hb hml hr hlk hnm hC hLS hA hw hl
  have hC : cx D τ s m args RX6 := hC
  have hl : lv_has ls 3 [(0, .ref (ad k0)), (1, .int (iI p1)), (2, .int (iI p2))] := hl
  unfold qX6_addMourner at hv
  refine lv_aload_n hx hb dX6_addMourner_0 rfl (lv_at hl 0 rfl) ?_
  refine gf_X6_18 hx hb hC hw k0 (gS_X hk0 τ ad M) rfl dX6_addMourner_1 ?_
  refine lv_aload_n hx hb dX6_addMourner_4 rfl (lv_at hl 0 rfl) ?_
  refine gf_X6_34 hx hb hC hw k0 (gS_X hk0 τ ad M) rfl dX6_addMourner_5 ?_
  refine r_top (fun x1 e1 => ?_)
  have g1 : iR x1 := by rw [e1]; exact hM.get hk0.pos _
  have hv := hv x1 e1 g1
  refine lv_iload_n hx hb dX6_addMourner_8 rfl (lv_at hl 1 rfl) ?_
  obtain ⟨c2, hv⟩ := hv
  obtain ⟨c3, hv⟩ := hv
  obtain ⟨M4, e4⟩ : ∃ M4 : Mem, M4 = up2 M (k0 + 3) x1 p1 := ⟨_, rfl⟩
  have hv := hv M4 e4
  refine r_iast (ws' := (WX τ ad M4)) hx hb hC hw (k0 + 3) (gI_X (isS_f2 hk0) τ ad M) c2 c3 (by decide) (by rw [e4]; exact sI_X (isS_f2 hk0) τ ad M _ _) dX6_addMourner_9 (fun H locs hw => ?_)
  have hM : MR M4 := by rw [e4]; exact hM.put (isS_f2 hk0).pos hp1
  refine lv_aload_n hx hb dX6_addMourner_10 rfl (lv_at hl 0 rfl) ?_
  refine gf_X6_21 hx hb hC hw k0 (gS_X hk0 τ ad M4) rfl dX6_addMourner_11 ?_
  refine lv_aload_n hx hb dX6_addMourner_14 rfl (lv_at hl 0 rfl) ?_
  refine gf_X6_34 hx hb hC hw k0 (gS_X hk0 τ ad M4) rfl dX6_addMourner_15 ?_
  refine r_top (fun x5 e5 => ?_)
  have g5 : iR x5 := by rw [e5]; exact hM.get hk0.pos _
  have hv := hv x5 e5 g5
  refine lv_iload_n hx hb dX6_addMourner_18 rfl (lv_at hl 2 rfl) ?_
  obtain ⟨c6, hv⟩ := hv
  obtain ⟨c7, hv⟩ := hv
  obtain ⟨M8, e8⟩ : ∃ M8 : Mem, M8 = up2 M4 (k0 + 4) x5 p2 := ⟨_, rfl⟩
  have hv := hv M8 e8
  refine r_iast (ws' := (WX τ ad M8)) hx hb hC hw (k0 + 4) (gI_X (isS_f3 hk0) τ ad M4) c6 c7 (by decide) (by rw [e8]; exact sI_X (isS_f3 hk0) τ ad M4 _ _) dX6_addMourner_19 (fun H locs hw => ?_)
  have hM : MR M8 := by rw [e8]; exact hM.put (isS_f3 hk0).pos hp2
  refine lv_aload_n hx hb dX6_addMourner_20 rfl (lv_at hl 0 rfl) ?_
  refine gf_X6_24 hx hb hC hw k0 (gS_X hk0 τ ad M8) rfl dX6_addMourner_21 ?_
  refine lv_aload_n hx hb dX6_addMourner_24 rfl (lv_at hl 0 rfl) ?_
  refine gf_X6_34 hx hb hC hw k0 (gS_X hk0 τ ad M8) rfl dX6_addMourner_25 ?_
  refine r_top (fun x9 e9 => ?_)
  have g9 : iR x9 := by rw [e9]; exact hM.get hk0.pos _
  have hv := hv x9 e9 g9
  refine r_iconst hx hb dX6_addMourner_28 ?_
  obtain ⟨c10, hv⟩ := hv
  obtain ⟨c11, hv⟩ := hv
  obtain ⟨M12, e12⟩ : ∃ M12 : Mem, M12 = up2 M8 (k0 + 5) x9 (-1) := ⟨_, rfl⟩
  have hv := hv M12 e12
  refine r_iast (ws' := (WX τ ad M12)) hx hb hC hw (k0 + 5) (gI_X (isS_f4 hk0) τ ad M8) c10 c11 (by decide) (by rw [e12]; exact sI_X (isS_f4 hk0) τ ad M8 _ _) dX6_addMourner_29 (fun H locs hw => ?_)
  have hM : MR M12 := by rw [e12]; exact hM.put (isS_f4 hk0).pos (by decide)
  refine lv_aload_n hx hb dX6_addMourner_30 rfl (lv_at hl 0 rfl) ?_
  refine gf_X6_27 hx hb hC hw k0 (gS_X hk0 τ ad M12) rfl dX6_addMourner_31 ?_
  refine lv_aload_n hx hb dX6_addMourner_34 rfl (lv_at hl 0 rfl) ?_
  refine gf_X6_34 hx hb hC hw k0 (gS_X hk0 τ ad M12) rfl dX6_addMourner_35 ?_
  refine r_top (fun x13 e13 => ?_)
  have g13 : iR x13 := by rw [e13]; exact hM.get hk0.pos _
  have hv := hv x13 e13 g13
  refine r_iconst hx hb dX6_addMourner_38 ?_
  obtain ⟨c14, hv⟩ := hv
  obtain ⟨c15, hv⟩ := hv
  obtain ⟨M16, e16⟩ : ∃ M16 : Mem, M16 = up2 M12 (k0 + 6) x13 (-1) := ⟨_, rfl⟩
  have hv := hv M16 e16
  refine r_iast (ws' := (WX τ ad M16)) hx hb hC hw (k0 + 6) (gI_X (isS_f5 hk0) τ ad M12) c14 c15 (by decide) (by rw [e16]; exact sI_X (isS_f5 hk0) τ ad M12 _ _) dX6_addMourner_39 (fun H locs hw => ?_)
  have hM : MR M16 := by rw [e16]; exact hM.put (isS_f5 hk0).pos (by decide)
  refine lv_aload_n hx hb dX6_addMourner_40 rfl (lv_at hl 0 rfl) ?_
  refine lv_dup hx hb dX6_addMourner_41 rfl ?_
  refine gf_X6_34 hx hb hC hw k0 (gS_X hk0 τ ad M16) rfl dX6_addMourner_42 ?_
  refine r_top (fun x17 e17 => ?_)
  have g17 : iR x17 := by rw [e17]; exact hM.get hk0.pos _
  have hv := hv x17 e17 g17
  refine r_iconst hx hb dX6_addMourner_45 ?_
  refine r_iadd (z := (x17 + 1)) hx hb dX6_addMourner_46 rfl ?_
  obtain ⟨c18, hv⟩ := hv
  obtain ⟨M19, e19⟩ : ∃ M19 : Mem, M19 = up2 M16 k0 7 (x17 + 1) := ⟨_, rfl⟩
  have hv := hv M19 e19
  refine pf_X6_34 (ws' := (WX τ ad M19)) hx hb hC hw k0 (gS_X hk0 τ ad M16) (Nat.le_of_ble_eq_true rfl) (by rw [e19]; exact sS_7 hk0 τ ad M16 _) dX6_addMourner_47 (fun H locs hw => ?_)
  have hM : MR M19 := by rw [e19]; exact hM.put hk0.pos c18
  exact k_vret (wq_X τ ad) hx hb hr hlk hw hM hv dX6_addMourner_50
set_option maxHeartbeats 4000000 in
set_option maxRecDepth 100000 in
theorem mX11_readMourner (l : Launch) (D : va_G) (τ : Nat → ClassId) (ad : Nat → Nat) (sA sV : Nat → Nat) (sz : Nat)   (M : Mem) (hM : MR M) (Q : Int → Mem → Prop) (hv : qX11_readMourner  M Q) : Met l yX11_readMourner (lw_w yX11_readMourner cX11_readMourner 3 (some .boolean)) (rmk 5 0 0) (kPc D τ sA sV (WX τ ad M) sz [.ref (ad 155)]) (gQi D (EQz (WX τ ad) MR Q) (va_A (WX τ ad M) sz)) 0 0 (va_A (WX τ ad M) sz) := by
  refine k_met (ret := (some .boolean)) (Qc := gQi D (EQz (WX τ ad) MR Q)) (by decide +kernel) (Nat.le_of_ble_eq_true rfl) ?_
  intro p e s m args below meth c A ls hx hb hml hr hlk hnm hC hLS hA hw hl
  have hC : cx D τ s m args RX11 := hC
  have hl : lv_has ls 3 [(0, .ref (ad 155))] := hl
  unfold qX11_readMourner at hv
  refine lv_aload_n hx hb dX11_readMourner_0 rfl (lv_at hl 0 rfl) ?_
  refine gf_X11_30 hx hb hC hw 155 (gX_155 τ ad M) rfl dX11_readMourner_1 ?_
  refine gf_X11_191 hx hb hC hw 8 (gS_X (by decide) τ ad M) rfl dX11_readMourner_4 ?_
  refine r_top (fun x1 e1 => ?_)
  have g1 : iR x1 := by rw [e1]; exact hM.get (by decide) _
  have hv := hv x1 e1 g1
  refine r_bipush hx hb dX11_readMourner_7 (by decide +kernel) ?_
  refine r_icmp_lt (tgt := 14) hx hb dX11_readMourner_9 (by decide) g1 (by decide) (fun b2 => ?_) (fun b2 => ?_)
  · have hv := hv.1 b2
    refine lv_aload_n hx hb dX11_readMourner_14 rfl (lv_at hl 0 rfl) ?_
    refine k_cVi (wq_X τ ad) hx hb hml hC hLS hA hw hl.1 (mX11_readCell l D τ ad sA sV _   M hM _ hv) kX11_readCell ml_X11_179 rfl (gX_155 τ ad M) rfl rfl (Nat.le_of_ble_eq_true rfl) (rm_ok (by decide) (by decide)) ⟨Nat.zero_le _, Nat.zero_le _⟩ dX11_readMourner_15 (fun x3 M3 H locs g3 hM hv hw => ?_)
    have hv := hv g3
    refine lv_istore_n (lv' := [(1, .int (iI x3)), (0, .ref (ad 155))]) hx hb dX11_readMourner_18 rfl hl (by decide) rfl (fun ls hl => ?_)
    refine lv_aload_n hx hb dX11_readMourner_19 rfl (lv_at hl 1 rfl) ?_
    refine gf_X11_10 hx hb hC hw 155 (gX_155 τ ad M3) rfl dX11_readMourner_20 ?_
    refine k_cVi (wq_X τ ad) hx hb hml hC hLS hA hw hl.1 (mX9_look l D τ ad sA sV _   M3 hM _ hv) kX9_look ml_X11_194 rfl (gX_156 τ ad M3) rfl rfl (Nat.le_of_ble_eq_true rfl) (rm_ok (by decide) (by decide)) ⟨Nat.zero_le _, Nat.zero_le _⟩ dX11_readMourner_23 (fun x4 M4 H locs g4 hM hv hw => ?_)
    have hv := hv g4
    refine r_bipush hx hb dX11_readMourner_26 (by decide +kernel) ?_
    refine r_isub (z := (x4 - 97)) hx hb dX11_readMourner_28 rfl ?_
    refine lv_istore_n (lv' := [(2, .int (iI (x4 - 97))), (1, .int (iI x3)), (0, .ref (ad 155))]) hx hb dX11_readMourner_29 rfl hl (by decide) rfl (fun ls hl => ?_)
    refine lv_iload_n hx hb dX11_readMourner_30 rfl (lv_at hl 1 rfl) ?_
    refine r_iconst hx hb dX11_readMourner_31 ?_
    refine r_icmp_eq (tgt := 50) hx hb dX11_readMourner_32 (by decide) g3 (by decide) (fun b5 => ?_) (fun b5 => ?_)
    · have hv := hv.1 b5
      refine r_iconst hx hb dX11_readMourner_50 ?_
      exact k_zret (wq_X τ ad) hx hb hr hlk hw hM (by decide) (by decide) hv dX11_readMourner_51
    · have hv := hv.2 b5
      refine lv_iload_n hx hb dX11_readMourner_35 rfl (lv_at hl 0 rfl) ?_
      obtain ⟨c6, hv⟩ := hv
      refine r_if_lt (tgt := 50) hx hb dX11_readMourner_36 (by decide) c6  (fun b7 => ?_) (fun b7 => ?_)
      · have hv := hv.1 b7
        refine r_iconst hx hb dX11_readMourner_50 ?_
        exact k_zret (wq_X τ ad) hx hb hr hlk hw hM (by decide) (by decide) hv dX11_readMourner_51
      · have hv := hv.2 b7
        refine lv_iload_n hx hb dX11_readMourner_39 rfl (lv_at hl 0 rfl) ?_
        refine lv_aload_n hx hb dX11_readMourner_40 rfl (lv_at hl 2 rfl) ?_
        refine gf_X11_30 hx hb hC hw 155 (gX_155 τ ad M4) rfl dX11_readMourner_41 ?_
        refine gf_X11_176 hx hb hC hw 8 (gS_X (by decide) τ ad M4) rfl dX11_readMourner_44 ?_
        refine r_top (fun x8 e8 => ?_)
        have g8 : iR x8 := by rw [e8]; exact hM.get (by decide) _
        have hv := hv x8 e8 g8
        refine r_icmp_lt (tgt := 52) hx hb dX11_readMourner_47 (by decide) c6 g8 (fun b9 => ?_) (fun b9 => ?_)
        · have hv := hv.1 b9
          refine lv_aload_n hx hb dX11_readMourner_52 rfl (lv_at hl 2 rfl) ?_
          refine gf_X11_10 hx hb hC hw 155 (gX_155 τ ad M4) rfl dX11_readMourner_53 ?_
          refine k_cVv (wq_X τ ad) hx hb hml hC hLS hA hw hl.1 (mX9_pass l D τ ad sA sV _   M4 hM _ hv) kX9_pass ml_X11_197 rfl (gX_156 τ ad M4) rfl rfl (Nat.le_of_ble_eq_true rfl) (rm_ok (by decide) (by decide)) ⟨Nat.zero_le _, Nat.zero_le _⟩ dX11_readMourner_56 (fun M10 H locs hM hv hw => ?_)
          refine lv_aload_n hx hb dX11_readMourner_59 rfl (lv_at hl 2 rfl) ?_
          refine gf_X11_30 hx hb hC hw 155 (gX_155 τ ad M10) rfl dX11_readMourner_60 ?_
          refine lv_iload_n hx hb dX11_readMourner_63 rfl (lv_at hl 1 rfl) ?_
          refine lv_iload_n hx hb dX11_readMourner_64 rfl (lv_at hl 0 rfl) ?_
          refine k_cVv (wq_X τ ad) hx hb hml hC hLS hA hw hl.1 (mX6_addMourner l D τ ad sA sV _ 8 x3 (x4 - 97) (by decide) g3 c6 M10 hM _ hv) kX6_addMourner ml_X11_200 rfl (gS_X (by decide) τ ad M10) rfl rfl (Nat.le_of_ble_eq_true rfl) (rm_ok (by decide) (by decide)) ⟨Nat.zero_le _, Nat.zero_le _⟩ dX11_readMourner_65 (fun M11 H locs hM hv hw => ?_)
          refine r_iconst hx hb dX11_readMourner_68 ?_
          exact k_zret (wq_X τ ad) hx hb hr hlk hw hM (by decide) (by decide) hv dX11_readMourner_69
        · have hv := hv.2 b9
          refine r_iconst hx hb dX11_readMourner_50 ?_
          exact k_zret (wq_X τ ad) hx hb hr hlk hw hM (by decide) (by decide) hv dX11_readMourner_51
  · have hv := hv.2 b2
    refine r_iconst hx hb dX11_readMourner_12 ?_
    exact k_zret (wq_X τ ad) hx hb hr hlk hw hM (by decide) (by decide) hv dX11_readMourner_13
set_option maxHeartbeats 4000000 in
set_option maxRecDepth 100000 in
theorem mX6_copyFrom (l : Launch) (D : va_G) (τ : Nat → ClassId) (ad : Nat → Nat) (sA sV : Nat → Nat) (sz : Nat) (k0 : Nat) (k1 : Nat) (hk0 : isS k0) (hk1 : isS k1) (M : Mem) (hM : MR M) (Q : Mem → Prop) (hv : qX6_copyFrom k0 k1 M Q) : Met l yX6_copyFrom (lw_w yX6_copyFrom cX6_copyFrom 2 none) (rmk 1 0 0) (kPc D τ sA sV (WX τ ad M) sz [.ref (ad k0), .ref (ad k1)]) (gQv D (EQv (WX τ ad) MR Q) (va_A (WX τ ad M) sz)) 0 0 (va_A (WX τ ad M) sz) := by
  refine k_met (ret := none) (Qc := gQv D (EQv (WX τ ad) MR Q)) (by decide +kernel) (Nat.le_of_ble_eq_true rfl) ?_
  intro p e s m args below meth c A ls hx hb hml hr hlk hnm hC hLS hA hw hl
  have hC : cx D τ s m args RX6 := hC
  have hl : lv_has ls 2 [(0, .ref (ad k0)), (1, .ref (ad k1))] := hl
  unfold qX6_copyFrom at hv
  refine lv_aload_n hx hb dX6_copyFrom_0 rfl (lv_at hl 1 rfl) ?_
  refine gf_X6_9 hx hb hC hw k1 (gS_X hk1 τ ad M) rfl dX6_copyFrom_1 ?_
  refine r_iconst hx hb dX6_copyFrom_4 ?_
  refine lv_aload_n hx hb dX6_copyFrom_5 rfl (lv_at hl 0 rfl) ?_
  refine gf_X6_9 hx hb hC hw k0 (gS_X hk0 τ ad M) rfl dX6_copyFrom_6 ?_
  refine r_iconst hx hb dX6_copyFrom_9 ?_
  refine r_bipush hx hb dX6_copyFrom_10 (by decide +kernel) ?_
  obtain ⟨M1, e1⟩ : ∃ M1 : Mem, M1 = cp2 M (k1 + 1) (k0 + 1) 6 := ⟨_, rfl⟩
  have hv := hv M1 e1
  refine r_copy (ws' := (WX τ ad M1)) hx hb hml hC hl.1 ml_X6_46 nm_arraycopy sm_arraycopy in_J10 hw (k1 + 1) (k0 + 1) (gI_X (isS_f0 hk1) τ ad M) (gI_X (isS_f0 hk0) τ ad M) (by decide) (by decide) (by decide) (by decide) (by rw [e1]; exact cI_X (isS_f0 hk0) τ ad M (k1 + 1) _) (by decide) (Nat.le_of_ble_eq_true rfl) (by decide) dX6_copyFrom_12 (fun H locs hw => ?_)
  have hM : MR M1 := by rw [e1]; exact hM.copy (isS_f0 hk1).pos (isS_f0 hk0).pos
  refine lv_aload_n hx hb dX6_copyFrom_15 rfl (lv_at hl 1 rfl) ?_
  refine gf_X6_15 hx hb hC hw k1 (gS_X hk1 τ ad M1) rfl dX6_copyFrom_16 ?_
  refine r_iconst hx hb dX6_copyFrom_19 ?_
  refine lv_aload_n hx hb dX6_copyFrom_20 rfl (lv_at hl 0 rfl) ?_
  refine gf_X6_15 hx hb hC hw k0 (gS_X hk0 τ ad M1) rfl dX6_copyFrom_21 ?_
  refine r_iconst hx hb dX6_copyFrom_24 ?_
  refine r_bipush hx hb dX6_copyFrom_25 (by decide +kernel) ?_
  obtain ⟨M2, e2⟩ : ∃ M2 : Mem, M2 = cp2 M1 (k1 + 2) (k0 + 2) 6 := ⟨_, rfl⟩
  have hv := hv M2 e2
  refine r_copy (ws' := (WX τ ad M2)) hx hb hml hC hl.1 ml_X6_46 nm_arraycopy sm_arraycopy in_J10 hw (k1 + 2) (k0 + 2) (gI_X (isS_f1 hk1) τ ad M1) (gI_X (isS_f1 hk0) τ ad M1) (by decide) (by decide) (by decide) (by decide) (by rw [e2]; exact cI_X (isS_f1 hk0) τ ad M1 (k1 + 2) _) (by decide) (Nat.le_of_ble_eq_true rfl) (by decide) dX6_copyFrom_27 (fun H locs hw => ?_)
  have hM : MR M2 := by rw [e2]; exact hM.copy (isS_f1 hk1).pos (isS_f1 hk0).pos
  refine lv_aload_n hx hb dX6_copyFrom_30 rfl (lv_at hl 1 rfl) ?_
  refine gf_X6_18 hx hb hC hw k1 (gS_X hk1 τ ad M2) rfl dX6_copyFrom_31 ?_
  refine r_iconst hx hb dX6_copyFrom_34 ?_
  refine lv_aload_n hx hb dX6_copyFrom_35 rfl (lv_at hl 0 rfl) ?_
  refine gf_X6_18 hx hb hC hw k0 (gS_X hk0 τ ad M2) rfl dX6_copyFrom_36 ?_
  refine r_iconst hx hb dX6_copyFrom_39 ?_
  refine r_bipush hx hb dX6_copyFrom_40 (by decide +kernel) ?_
  obtain ⟨M3, e3⟩ : ∃ M3 : Mem, M3 = cp2 M2 (k1 + 3) (k0 + 3) 8 := ⟨_, rfl⟩
  have hv := hv M3 e3
  refine r_copy (ws' := (WX τ ad M3)) hx hb hml hC hl.1 ml_X6_46 nm_arraycopy sm_arraycopy in_J10 hw (k1 + 3) (k0 + 3) (gI_X (isS_f2 hk1) τ ad M2) (gI_X (isS_f2 hk0) τ ad M2) (by decide) (by decide) (by decide) (by decide) (by rw [e3]; exact cI_X (isS_f2 hk0) τ ad M2 (k1 + 3) _) (by decide) (Nat.le_of_ble_eq_true rfl) (by decide) dX6_copyFrom_42 (fun H locs hw => ?_)
  have hM : MR M3 := by rw [e3]; exact hM.copy (isS_f2 hk1).pos (isS_f2 hk0).pos
  refine lv_aload_n hx hb dX6_copyFrom_45 rfl (lv_at hl 1 rfl) ?_
  refine gf_X6_21 hx hb hC hw k1 (gS_X hk1 τ ad M3) rfl dX6_copyFrom_46 ?_
  refine r_iconst hx hb dX6_copyFrom_49 ?_
  refine lv_aload_n hx hb dX6_copyFrom_50 rfl (lv_at hl 0 rfl) ?_
  refine gf_X6_21 hx hb hC hw k0 (gS_X hk0 τ ad M3) rfl dX6_copyFrom_51 ?_
  refine r_iconst hx hb dX6_copyFrom_54 ?_
  refine r_bipush hx hb dX6_copyFrom_55 (by decide +kernel) ?_
  obtain ⟨M4, e4⟩ : ∃ M4 : Mem, M4 = cp2 M3 (k1 + 4) (k0 + 4) 8 := ⟨_, rfl⟩
  have hv := hv M4 e4
  refine r_copy (ws' := (WX τ ad M4)) hx hb hml hC hl.1 ml_X6_46 nm_arraycopy sm_arraycopy in_J10 hw (k1 + 4) (k0 + 4) (gI_X (isS_f3 hk1) τ ad M3) (gI_X (isS_f3 hk0) τ ad M3) (by decide) (by decide) (by decide) (by decide) (by rw [e4]; exact cI_X (isS_f3 hk0) τ ad M3 (k1 + 4) _) (by decide) (Nat.le_of_ble_eq_true rfl) (by decide) dX6_copyFrom_57 (fun H locs hw => ?_)
  have hM : MR M4 := by rw [e4]; exact hM.copy (isS_f3 hk1).pos (isS_f3 hk0).pos
  refine lv_aload_n hx hb dX6_copyFrom_60 rfl (lv_at hl 1 rfl) ?_
  refine gf_X6_24 hx hb hC hw k1 (gS_X hk1 τ ad M4) rfl dX6_copyFrom_61 ?_
  refine r_iconst hx hb dX6_copyFrom_64 ?_
  refine lv_aload_n hx hb dX6_copyFrom_65 rfl (lv_at hl 0 rfl) ?_
  refine gf_X6_24 hx hb hC hw k0 (gS_X hk0 τ ad M4) rfl dX6_copyFrom_66 ?_
  refine r_iconst hx hb dX6_copyFrom_69 ?_
  refine r_bipush hx hb dX6_copyFrom_70 (by decide +kernel) ?_
  obtain ⟨M5, e5⟩ : ∃ M5 : Mem, M5 = cp2 M4 (k1 + 5) (k0 + 5) 8 := ⟨_, rfl⟩
  have hv := hv M5 e5
  refine r_copy (ws' := (WX τ ad M5)) hx hb hml hC hl.1 ml_X6_46 nm_arraycopy sm_arraycopy in_J10 hw (k1 + 5) (k0 + 5) (gI_X (isS_f4 hk1) τ ad M4) (gI_X (isS_f4 hk0) τ ad M4) (by decide) (by decide) (by decide) (by decide) (by rw [e5]; exact cI_X (isS_f4 hk0) τ ad M4 (k1 + 5) _) (by decide) (Nat.le_of_ble_eq_true rfl) (by decide) dX6_copyFrom_72 (fun H locs hw => ?_)
  have hM : MR M5 := by rw [e5]; exact hM.copy (isS_f4 hk1).pos (isS_f4 hk0).pos
  refine lv_aload_n hx hb dX6_copyFrom_75 rfl (lv_at hl 1 rfl) ?_
  refine gf_X6_27 hx hb hC hw k1 (gS_X hk1 τ ad M5) rfl dX6_copyFrom_76 ?_
  refine r_iconst hx hb dX6_copyFrom_79 ?_
  refine lv_aload_n hx hb dX6_copyFrom_80 rfl (lv_at hl 0 rfl) ?_
  refine gf_X6_27 hx hb hC hw k0 (gS_X hk0 τ ad M5) rfl dX6_copyFrom_81 ?_
  refine r_iconst hx hb dX6_copyFrom_84 ?_
  refine r_bipush hx hb dX6_copyFrom_85 (by decide +kernel) ?_
  obtain ⟨M6, e6⟩ : ∃ M6 : Mem, M6 = cp2 M5 (k1 + 6) (k0 + 6) 8 := ⟨_, rfl⟩
  have hv := hv M6 e6
  refine r_copy (ws' := (WX τ ad M6)) hx hb hml hC hl.1 ml_X6_46 nm_arraycopy sm_arraycopy in_J10 hw (k1 + 6) (k0 + 6) (gI_X (isS_f5 hk1) τ ad M5) (gI_X (isS_f5 hk0) τ ad M5) (by decide) (by decide) (by decide) (by decide) (by rw [e6]; exact cI_X (isS_f5 hk0) τ ad M5 (k1 + 6) _) (by decide) (Nat.le_of_ble_eq_true rfl) (by decide) dX6_copyFrom_87 (fun H locs hw => ?_)
  have hM : MR M6 := by rw [e6]; exact hM.copy (isS_f5 hk1).pos (isS_f5 hk0).pos
  refine lv_aload_n hx hb dX6_copyFrom_90 rfl (lv_at hl 0 rfl) ?_
  refine lv_aload_n hx hb dX6_copyFrom_91 rfl (lv_at hl 1 rfl) ?_
  refine gf_X6_30 hx hb hC hw k1 (gS_X hk1 τ ad M6) rfl dX6_copyFrom_92 ?_
  refine r_top (fun x7 e7 => ?_)
  have g7 : iR x7 := by rw [e7]; exact hM.get hk1.pos _
  have hv := hv x7 e7 g7
  obtain ⟨M8, e8⟩ : ∃ M8 : Mem, M8 = up2 M6 k0 6 x7 := ⟨_, rfl⟩
  have hv := hv M8 e8
  refine pf_X6_30 (ws' := (WX τ ad M8)) hx hb hC hw k0 (gS_X hk0 τ ad M6) (Nat.le_of_ble_eq_true rfl) (by rw [e8]; exact sS_6 hk0 τ ad M6 _) dX6_copyFrom_95 (fun H locs hw => ?_)
  have hM : MR M8 := by rw [e8]; exact hM.put hk0.pos g7
  refine lv_aload_n hx hb dX6_copyFrom_98 rfl (lv_at hl 0 rfl) ?_
  refine lv_aload_n hx hb dX6_copyFrom_99 rfl (lv_at hl 1 rfl) ?_
  refine gf_X6_34 hx hb hC hw k1 (gS_X hk1 τ ad M8) rfl dX6_copyFrom_100 ?_
  refine r_top (fun x9 e9 => ?_)
  have g9 : iR x9 := by rw [e9]; exact hM.get hk1.pos _
  have hv := hv x9 e9 g9
  obtain ⟨M10, e10⟩ : ∃ M10 : Mem, M10 = up2 M8 k0 7 x9 := ⟨_, rfl⟩
  have hv := hv M10 e10
  refine pf_X6_34 (ws' := (WX τ ad M10)) hx hb hC hw k0 (gS_X hk0 τ ad M8) (Nat.le_of_ble_eq_true rfl) (by rw [e10]; exact sS_7 hk0 τ ad M8 _) dX6_copyFrom_103 (fun H locs hw => ?_)
  have hM : MR M10 := by rw [e10]; exact hM.put hk0.pos g9
  refine lv_aload_n hx hb dX6_copyFrom_106 rfl (lv_at hl 0 rfl) ?_
  refine lv_aload_n hx hb dX6_copyFrom_107 rfl (lv_at hl 1 rfl) ?_
  refine gf_X6_37 hx hb hC hw k1 (gS_X hk1 τ ad M10) rfl dX6_copyFrom_108 ?_
  refine r_top (fun x11 e11 => ?_)
  have g11 : iR x11 := by rw [e11]; exact hM.get hk1.pos _
  have hv := hv x11 e11 g11
  obtain ⟨M12, e12⟩ : ∃ M12 : Mem, M12 = up2 M10 k0 8 x11 := ⟨_, rfl⟩
  have hv := hv M12 e12
  refine pf_X6_37 (ws' := (WX τ ad M12)) hx hb hC hw k0 (gS_X hk0 τ ad M10) (Nat.le_of_ble_eq_true rfl) (by rw [e12]; exact sS_8 hk0 τ ad M10 _) dX6_copyFrom_111 (fun H locs hw => ?_)
  have hM : MR M12 := by rw [e12]; exact hM.put hk0.pos g11
  refine lv_aload_n hx hb dX6_copyFrom_114 rfl (lv_at hl 0 rfl) ?_
  refine lv_aload_n hx hb dX6_copyFrom_115 rfl (lv_at hl 1 rfl) ?_
  refine gf_X6_40 hx hb hC hw k1 (gS_X hk1 τ ad M12) rfl dX6_copyFrom_116 ?_
  refine r_top (fun x13 e13 => ?_)
  have g13 : iR x13 := by rw [e13]; exact hM.get hk1.pos _
  have hv := hv x13 e13 g13
  obtain ⟨M14, e14⟩ : ∃ M14 : Mem, M14 = up2 M12 k0 9 x13 := ⟨_, rfl⟩
  have hv := hv M14 e14
  refine pf_X6_40 (ws' := (WX τ ad M14)) hx hb hC hw k0 (gS_X hk0 τ ad M12) (Nat.le_of_ble_eq_true rfl) (by rw [e14]; exact sS_9 hk0 τ ad M12 _) dX6_copyFrom_119 (fun H locs hw => ?_)
  have hM : MR M14 := by rw [e14]; exact hM.put hk0.pos g13
  refine lv_aload_n hx hb dX6_copyFrom_122 rfl (lv_at hl 0 rfl) ?_
  refine lv_aload_n hx hb dX6_copyFrom_123 rfl (lv_at hl 1 rfl) ?_
  refine gf_X6_43 hx hb hC hw k1 (gS_X hk1 τ ad M14) rfl dX6_copyFrom_124 ?_
  refine r_top (fun x15 e15 => ?_)
  have g15 : iR x15 := by rw [e15]; exact hM.get hk1.pos _
  have hv := hv x15 e15 g15
  obtain ⟨M16, e16⟩ : ∃ M16 : Mem, M16 = up2 M14 k0 10 x15 := ⟨_, rfl⟩
  have hv := hv M16 e16
  refine pf_X6_43 (ws' := (WX τ ad M16)) hx hb hC hw k0 (gS_X hk0 τ ad M14) (Nat.le_of_ble_eq_true rfl) (by rw [e16]; exact sS_10 hk0 τ ad M14 _) dX6_copyFrom_127 (fun H locs hw => ?_)
  have hM : MR M16 := by rw [e16]; exact hM.put hk0.pos g15
  exact k_vret (wq_X τ ad) hx hb hr hlk hw hM hv dX6_copyFrom_130
set_option maxHeartbeats 4000000 in
set_option maxRecDepth 100000 in
theorem mX9_isWhole (l : Launch) (D : va_G) (τ : Nat → ClassId) (ad : Nat → Nat) (sA sV : Nat → Nat) (sz : Nat)   (M : Mem) (hM : MR M) (Q : Int → Mem → Prop) (hv : qX9_isWhole  M Q) : Met l yX9_isWhole (lw_w yX9_isWhole cX9_isWhole 1 (some .boolean)) (rmk 1 0 0) (kPc D τ sA sV (WX τ ad M) sz [.ref (ad 156)]) (gQi D (EQz (WX τ ad) MR Q) (va_A (WX τ ad M) sz)) 0 0 (va_A (WX τ ad M) sz) := by
  refine k_met (ret := (some .boolean)) (Qc := gQi D (EQz (WX τ ad) MR Q)) (by decide +kernel) (Nat.le_of_ble_eq_true rfl) ?_
  intro p e s m args below meth c A ls hx hb hml hr hlk hnm hC hLS hA hw hl
  have hC : cx D τ s m args RX9 := hC
  have hl : lv_has ls 1 [(0, .ref (ad 156))] := hl
  unfold qX9_isWhole at hv
  refine lv_aload_n hx hb dX9_isWhole_0 rfl (lv_at hl 0 rfl) ?_
  refine gf_X9_19 hx hb hC hw 156 (gX_156 τ ad M) rfl dX9_isWhole_1 ?_
  refine r_top (fun x1 e1 => ?_)
  have g1 : iR x1 := by rw [e1]; exact hM.get (by decide) _
  have hv := hv x1 e1 g1
  refine lv_aload_n hx hb dX9_isWhole_4 rfl (lv_at hl 0 rfl) ?_
  refine gf_X9_15 hx hb hC hw 156 (gX_156 τ ad M) rfl dX9_isWhole_5 ?_
  refine r_top (fun x2 e2 => ?_)
  have g2 : iR x2 := by rw [e2]; exact hM.get (by decide) _
  have hv := hv x2 e2 g2
  refine r_icmp_lt (tgt := 15) hx hb dX9_isWhole_8 (by decide) g1 g2 (fun b3 => ?_) (fun b3 => ?_)
  · have hv := hv.1 b3
    refine r_iconst hx hb dX9_isWhole_15 ?_
    exact k_zret (wq_X τ ad) hx hb hr hlk hw hM (by decide) (by decide) hv dX9_isWhole_16
  · have hv := hv.2 b3
    refine r_iconst hx hb dX9_isWhole_11 ?_
    refine lv_goto (tgt := 16) hx hb dX9_isWhole_12 (by decide) ?_
    exact k_zret (wq_X τ ad) hx hb hr hlk hw hM (by decide) (by decide) hv dX9_isWhole_16
